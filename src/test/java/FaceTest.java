import java.lang.reflect.Constructor;
import java.lang.reflect.Executable;
import java.lang.reflect.Field;
import java.lang.reflect.Method;
import java.lang.reflect.Modifier;
import java.util.Arrays;
import java.util.TreeSet;
import java.util.stream.Collectors;

/**
 * The public face: all that the document names, and no other member that is not private; no private
 * method bears the name of a public one.
 */
final class FaceTest {
    private static final String ILLEGAL_ARGUMENT = " throws IllegalArgumentException";
    private static final String ILLEGAL_STATE = ",IllegalStateException";
    private static final String OUT_OF_BOUNDS = " throws IndexOutOfBoundsException";

    private static final String[] FACE = {
        "public static final int NONE",
        "public FeatureStore()",
        "public int arrive(int,int,int,int)" + ILLEGAL_ARGUMENT + ILLEGAL_STATE,
        "public int pass(int)" + ILLEGAL_ARGUMENT + ILLEGAL_STATE,
        "public int setLifetime(int,int)" + ILLEGAL_ARGUMENT,
        "public int now()",
        "public int rows()",
        "public int value(int)" + OUT_OF_BOUNDS,
        "public int late(int)" + OUT_OF_BOUNDS,
        "public int join(int,int,int,int)" + ILLEGAL_ARGUMENT,
        "public int window(int,int,int,int)" + ILLEGAL_ARGUMENT,
        "public int greatestTile(int,int,int)" + ILLEGAL_ARGUMENT,
        "public int tiles(int,int,int)" + ILLEGAL_ARGUMENT,
        "public int revised(int,int,int)" + ILLEGAL_ARGUMENT,
        "public int take(int)" + ILLEGAL_ARGUMENT,
        "public int lag()",
        "public int online(int,int)" + ILLEGAL_ARGUMENT,
        "public int skew()",
        "public int serve(int,int)" + ILLEGAL_ARGUMENT + ILLEGAL_STATE,
        "public int servings()",
        "public int served(int)" + OUT_OF_BOUNDS,
        "public boolean isSound(int)" + OUT_OF_BOUNDS,
        "public int unsound()",
    };

    public static void main(String[] args) {
        Due.answer("NONE", -1, FeatureStore.NONE);
        int modifiers = FeatureStore.class.getModifiers();
        Due.truth("the class is public", true, Modifier.isPublic(modifiers));
        Due.truth("the class is final", true, Modifier.isFinal(modifiers));
        compareMembers();
        holdPrivateNames();
        Due.end();
    }

    private static void compareMembers() {
        TreeSet<String> got = membersThatAreNotPrivate();
        for (String member : FACE) {
            if (!got.remove(member)) {
                Due.tell("the face lacks: " + member);
            }
        }
        for (String member : got) {
            Due.tell("not of the face: " + member);
        }
    }

    private static TreeSet<String> membersThatAreNotPrivate() {
        TreeSet<String> members = new TreeSet<>();
        for (Field field : FeatureStore.class.getDeclaredFields()) {
            if (isSeen(field.getModifiers(), field.isSynthetic())) {
                members.add(Modifier.toString(field.getModifiers()) + " "
                        + field.getType().getSimpleName() + " " + field.getName());
            }
        }
        for (Constructor<?> constructor : FeatureStore.class.getDeclaredConstructors()) {
            if (isSeen(constructor.getModifiers(), constructor.isSynthetic())) {
                members.add(Modifier.toString(constructor.getModifiers()) + " FeatureStore"
                        + signature(constructor));
            }
        }
        for (Method method : FeatureStore.class.getDeclaredMethods()) {
            if (isSeen(method.getModifiers(), method.isSynthetic())) {
                members.add(Modifier.toString(method.getModifiers()) + " "
                        + method.getReturnType().getSimpleName() + " " + method.getName()
                        + signature(method));
            }
        }
        return members;
    }

    private static void holdPrivateNames() {
        TreeSet<String> seen = new TreeSet<>();
        for (Method method : FeatureStore.class.getDeclaredMethods()) {
            if (Modifier.isPublic(method.getModifiers())) {
                seen.add(method.getName());
            }
        }
        for (Method method : FeatureStore.class.getDeclaredMethods()) {
            if (Modifier.isPrivate(method.getModifiers()) && seen.contains(method.getName())) {
                Due.tell("private, with the name of a public method: " + method);
            }
        }
    }

    private static boolean isSeen(int modifiers, boolean synthetic) {
        return !synthetic && !Modifier.isPrivate(modifiers);
    }

    private static String signature(Executable executable) {
        String exceptions = names(executable.getExceptionTypes());
        return "(" + names(executable.getParameterTypes()) + ")"
                + (exceptions.isEmpty() ? "" : " throws " + exceptions);
    }

    private static String names(Class<?>[] types) {
        return Arrays.stream(types).map(Class::getSimpleName).collect(Collectors.joining(","));
    }
}
