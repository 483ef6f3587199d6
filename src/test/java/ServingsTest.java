/** Promises 18 to 22: what was served, and whether it was sound. */
final class ServingsTest {
    private static final int NONE = FeatureStore.NONE;
    private static final Class<IllegalArgumentException> ARGUMENT = IllegalArgumentException.class;
    private static final Class<IllegalStateException> STATE = IllegalStateException.class;
    private static final Class<IndexOutOfBoundsException> INDEX = IndexOutOfBoundsException.class;

    public static void main(String[] args) {
        serveTellsTheOnlineCopy();
        serveKeepsWhatWasServed();
        serveRefusesServing200();
        serveRefuses();
        servedRefuses();
        isSoundComparesWithTheJoinOfItsTime();
        isSoundHeedsRowsOfTheSameTime();
        isSoundHeedsTheLifetimeOfToday();
        isSoundRefuses();
        unsoundCounts();
        Due.end();
    }

    private static void serveTellsTheOnlineCopy() {
        FeatureStore x = new FeatureStore();
        x.pass(10);
        x.arrive(0, 0, 8, 1);
        x.arrive(5, 9, 10, 1);
        Due.answer("serve before take", NONE, x.serve(0, 0));
        x.take(2);
        Due.answer("serve(0, 0)", 0, x.serve(0, 0));
        Due.answer("serve(5, 9)", 1, x.serve(5, 9));
        Due.answer("serve(0, 9)", NONE, x.serve(0, 9));
        x.setLifetime(0, 2);
        Due.answer("serve at the end of the lifetime", 0, x.serve(0, 0));
        x.pass(1);
        Due.answer("serve beyond the lifetime", NONE, x.serve(0, 0));
        Due.answer("servings()", 6, x.servings());
    }

    private static void serveKeepsWhatWasServed() {
        FeatureStore x = new FeatureStore();
        Due.answer("servings() at first", 0, x.servings());
        x.serve(0, 0);
        x.arrive(0, 0, 0, 1);
        x.take(1);
        x.serve(0, 0);
        Due.answer("servings() after two", 2, x.servings());
        x.pass(5);
        x.arrive(0, 0, 5, 1);
        x.take(1);
        x.setLifetime(0, 0);
        Due.answer("served(0)", NONE, x.served(0));
        Due.answer("served(1)", 0, x.served(1));
        x.serve(0, 0);
        Due.answer("served(2)", 1, x.served(2));
        Due.answer("served(1) still", 0, x.served(1));
        Due.answer("servings() after three", 3, x.servings());
    }

    private static void serveRefusesServing200() {
        FeatureStore x = new FeatureStore();
        x.arrive(0, 0, 0, 1);
        x.take(1);
        for (int serving = 0; serving < 200; serving++) {
            Due.answer("serving " + serving, serving == 199 ? 0 : NONE,
                    x.serve(0, serving == 199 ? 0 : 1));
        }
        Due.thrown("serving 200", STATE, () -> x.serve(0, 0));
        Due.thrown("serving 200, out of range", ARGUMENT, () -> x.serve(6, 0));
        Due.answer("servings() when full", 200, x.servings());
        Due.answer("served(199)", 0, x.served(199));
        Due.answer("served(198)", NONE, x.served(198));
        Due.truth("isSound(199)", true, x.isSound(199));
        Due.thrown("served(200)", INDEX, () -> x.served(200));
        Due.thrown("isSound(200)", INDEX, () -> x.isSound(200) ? 1 : 0);
        Due.answer("unsound() when full", 0, x.unsound());
        x.arrive(0, 1, 0, 1);
        Due.answer("unsound() after a row of the same time", 199, x.unsound());
    }

    private static void serveRefuses() {
        FeatureStore x = new FeatureStore();
        Due.thrown("serve(-1, 0)", ARGUMENT, () -> x.serve(-1, 0));
        Due.thrown("serve(6, 0)", ARGUMENT, () -> x.serve(6, 0));
        Due.thrown("serve(0, -1)", ARGUMENT, () -> x.serve(0, -1));
        Due.thrown("serve(0, 10)", ARGUMENT, () -> x.serve(0, 10));
        Due.answer("servings() after refusals", 0, x.servings());
    }

    private static void servedRefuses() {
        FeatureStore x = new FeatureStore();
        Due.thrown("served(0) without servings", INDEX, () -> x.served(0));
        x.serve(0, 0);
        Due.thrown("served(-1)", INDEX, () -> x.served(-1));
        Due.thrown("served(1)", INDEX, () -> x.served(1));
        Due.thrown("served(200)", INDEX, () -> x.served(200));
        Due.thrown("served(least int)", INDEX, () -> x.served(Integer.MIN_VALUE));
        Due.thrown("served(greatest int)", INDEX, () -> x.served(Integer.MAX_VALUE));
    }

    private static void isSoundComparesWithTheJoinOfItsTime() {
        FeatureStore x = new FeatureStore();
        x.pass(10);
        x.serve(0, 0);
        x.pass(1);
        x.arrive(0, 0, 5, 1);
        x.serve(0, 0);
        x.take(1);
        x.serve(0, 0);
        x.arrive(0, 1, 6, 1);
        x.arrive(1, 0, 6, 1);
        Due.truth("isSound of none, the row came later", true, x.isSound(0));
        Due.truth("isSound of none, the row was there", false, x.isSound(1));
        Due.truth("isSound of the row", true, x.isSound(2));
        x.pass(1);
        x.arrive(0, 0, 6, 1);
        Due.truth("isSound of the row after a late row", true, x.isSound(2));
        x.serve(0, 0);
        Due.truth("isSound of the old row", false, x.isSound(3));
    }

    private static void isSoundHeedsRowsOfTheSameTime() {
        FeatureStore x = new FeatureStore();
        x.pass(10);
        x.arrive(0, 0, 5, 1);
        x.take(1);
        x.serve(0, 0);
        Due.truth("isSound at first", true, x.isSound(0));
        x.arrive(0, 0, 4, 1);
        Due.truth("isSound after an earlier event", true, x.isSound(0));
        x.arrive(0, 0, 5, 1);
        Due.truth("isSound after an equal event", false, x.isSound(0));
        x.take(2);
        x.serve(0, 0);
        Due.truth("isSound of the row that was behind", true, x.isSound(1));
        Due.truth("isSound of the first still", false, x.isSound(0));
    }

    private static void isSoundHeedsTheLifetimeOfToday() {
        FeatureStore x = new FeatureStore();
        x.pass(10);
        x.arrive(0, 0, 5, 1);
        x.take(1);
        x.serve(0, 0);
        x.setLifetime(0, 4);
        x.serve(0, 0);
        Due.truth("isSound of a row now beyond its lifetime", false, x.isSound(0));
        Due.truth("isSound of none beyond the lifetime", true, x.isSound(1));
        x.setLifetime(0, 5);
        Due.truth("isSound of a row within its lifetime", true, x.isSound(0));
        Due.truth("isSound of none within the lifetime", false, x.isSound(1));
        x.pass(100);
        Due.truth("isSound looks at its own time", true, x.isSound(0));
    }

    private static void isSoundRefuses() {
        FeatureStore x = new FeatureStore();
        Due.thrown("isSound(0) without servings", INDEX, () -> x.isSound(0) ? 1 : 0);
        x.serve(0, 0);
        Due.thrown("isSound(-1)", INDEX, () -> x.isSound(-1) ? 1 : 0);
        Due.thrown("isSound(1)", INDEX, () -> x.isSound(1) ? 1 : 0);
        Due.thrown("isSound(200)", INDEX, () -> x.isSound(200) ? 1 : 0);
        Due.thrown("isSound(least int)", INDEX, () -> x.isSound(Integer.MIN_VALUE) ? 1 : 0);
    }

    private static void unsoundCounts() {
        FeatureStore x = new FeatureStore();
        Due.answer("unsound() at first", 0, x.unsound());
        x.pass(10);
        x.arrive(0, 0, 5, 1);
        x.serve(0, 0);
        x.serve(0, 0);
        x.serve(0, 1);
        Due.answer("unsound() of two", 2, x.unsound());
        x.take(1);
        x.serve(0, 0);
        Due.answer("unsound() still", 2, x.unsound());
        x.setLifetime(0, 4);
        Due.answer("unsound() with a lifetime", 1, x.unsound());
        x.setLifetime(0, 5);
        x.arrive(0, 0, 6, 1);
        Due.answer("unsound() after a row of the same time", 3, x.unsound());
    }
}
