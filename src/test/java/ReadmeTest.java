import java.io.IOException;
import java.io.StringWriter;
import java.lang.reflect.Method;
import java.lang.reflect.Modifier;
import java.net.URL;
import java.net.URLClassLoader;
import java.nio.file.Files;
import java.nio.file.Path;
import java.util.ArrayList;
import java.util.List;
import java.util.Set;
import java.util.TreeSet;
import java.util.concurrent.Callable;
import java.util.regex.Matcher;
import java.util.regex.Pattern;
import java.util.stream.Collectors;
import java.util.stream.Stream;
import javax.tools.JavaCompiler;
import javax.tools.StandardJavaFileManager;
import javax.tools.ToolProvider;

/**
 * README.md: the use that it shows compiles, shows each call and answers as it says; the command
 * that it names for the tests is there, and its table names all of them.
 */
final class ReadmeTest {
    private static final String MAKES = "FeatureStore store = new FeatureStore();";
    /** A call, the name of its method and the answer that is said, with more words behind it. */
    private static final Pattern SHOWN = Pattern.compile(
            "(store\\.(\\w+)\\(.*\\)); +// (-?\\d+|true|false|throws \\w+): .+");
    private static final Pattern IN_TABLE = Pattern.compile("\\| `(\\w+Test)` \\|.*");

    public static void main(String[] args) throws Exception {
        List<String> readme = Files.readAllLines(Path.of("README.md"));
        holdUse(linesBetween(readme, "```java", "```"));
        holdTests(linesBetween(readme, "## Tests", "## "));
        Due.end();
    }

    private static List<String> linesBetween(List<String> lines, String first, String end) {
        return lines.stream().dropWhile(line -> !line.equals(first)).skip(1)
                .takeWhile(line -> !line.startsWith(end)).collect(Collectors.toList());
    }

    // ---- the use that it shows

    private static void holdUse(List<String> lines) throws Exception {
        Due.truth("README begins with " + MAKES, true,
                !lines.isEmpty() && lines.get(0).startsWith(MAKES));
        List<Matcher> shown = new ArrayList<>();
        Set<String> notShown = callsOfTheFace();
        for (int k = 1; k < lines.size(); k++) {
            Matcher call = SHOWN.matcher(lines.get(k));
            if (call.matches()) {
                shown.add(call);
                notShown.remove(call.group(2));
            } else if (!lines.get(k).isBlank()) {
                Due.tell("README says no answer: " + lines.get(k));
            }
        }
        Due.truth("README shows each call but " + notShown, true, notShown.isEmpty());
        holdAnswers(shown);
    }

    private static Set<String> callsOfTheFace() {
        Set<String> names = new TreeSet<>();
        for (Method method : FeatureStore.class.getDeclaredMethods()) {
            if (Modifier.isPublic(method.getModifiers())) {
                names.add(method.getName());
            }
        }
        return names;
    }

    private static void holdAnswers(List<Matcher> shown) throws Exception {
        List<?> got = answersOf(sourceOf(shown));
        for (int k = 0; k < got.size(); k++) {
            String due = shown.get(k).group(3);
            if (!got.get(k).equals(due)) {
                Due.tell("README: " + shown.get(k).group(1) + " answered " + got.get(k)
                        + ", README says " + due);
            }
        }
    }

    private static String sourceOf(List<Matcher> shown) {
        StringBuilder source = new StringBuilder(
                "public final class ReadmeUse implements java.util.concurrent.Callable<Object> {\n"
                + "public Object call() {\n"
                + "java.util.List<String> answers = new java.util.ArrayList<>();\n"
                + MAKES + "\n");
        for (Matcher call : shown) {
            source.append("try { answers.add(String.valueOf(").append(call.group(1)).append(")); }\n")
                    .append("catch (RuntimeException e) ")
                    .append("{ answers.add(\"throws \" + e.getClass().getSimpleName()); }\n");
        }
        return source.append("return answers;\n}\n}\n").toString();
    }

    /** The answers of the calls in the order in which README shows them; none if it fails. */
    private static List<?> answersOf(String source) throws Exception {
        Path folder = Files.createTempDirectory("readme");
        try {
            Path file = Files.writeString(folder.resolve("ReadmeUse.java"), source);
            if (!compiles(file, folder)) {
                return List.of();
            }
            try (URLClassLoader loader = new URLClassLoader(new URL[] {folder.toUri().toURL()})) {
                Object use = loader.loadClass("ReadmeUse").getDeclaredConstructor().newInstance();
                return (List<?>) ((Callable<?>) use).call();
            }
        } finally {
            deleteAll(folder);
        }
    }

    private static boolean compiles(Path file, Path folder) {
        JavaCompiler compiler = ToolProvider.getSystemJavaCompiler();
        if (compiler == null) {
            Due.tell("there is no compiler for the use that README shows");
            return false;
        }
        StringWriter said = new StringWriter();
        List<String> options = List.of("-d", folder.toString(),
                "-cp", System.getProperty("java.class.path"));
        boolean compiled;
        try (StandardJavaFileManager files = compiler.getStandardFileManager(null, null, null)) {
            compiled = compiler.getTask(said, files, null, options, null,
                    files.getJavaFileObjects(file)).call();
        } catch (IOException e) {
            compiled = false;
        }
        Due.truth("README's use compiles " + said, true, compiled);
        return compiled;
    }

    private static void deleteAll(Path folder) throws IOException {
        for (Path file : filesIn(folder)) {
            Files.delete(file);
        }
        Files.delete(folder);
    }

    private static List<Path> filesIn(Path folder) throws IOException {
        try (Stream<Path> files = Files.list(folder)) {
            return files.sorted().collect(Collectors.toList());
        }
    }

    // ---- the tests that it names

    private static void holdTests(List<String> lines) throws IOException {
        List<String> commands = lines.stream().filter(line -> line.startsWith("    "))
                .map(String::strip).collect(Collectors.toList());
        Due.truth("README's commands are .ci/run, not " + commands, true,
                commands.equals(List.of(".ci/run")));
        Due.truth(".ci/run can be run", true, Files.isExecutable(Path.of(".ci/run")));
        Set<String> named = new TreeSet<>();
        for (String line : lines) {
            Matcher row = IN_TABLE.matcher(line);
            if (row.matches()) {
                named.add(row.group(1));
            }
        }
        Set<String> there = testsOfTheProject();
        Due.truth("README's table names " + named + ", there are " + there, true,
                named.equals(there));
    }

    private static Set<String> testsOfTheProject() throws IOException {
        Set<String> names = new TreeSet<>();
        for (Path file : filesIn(Path.of("src/test/java"))) {
            String name = file.getFileName().toString();
            if (name.endsWith("Test.java")) {
                names.add(name.substring(0, name.length() - ".java".length()));
            }
        }
        return names;
    }
}
