/** Promises 18 to 22: what was served, and whether it was sound. */
final class ServingsTest {
    private static final int NONE = FeatureStore.NONE;

    public static void main(String[] args) {
        serveTellsTheOnlineCopy();
        serveKeepsWhatWasServed();
        isSoundComparesWithTheJoinOfItsTime();
        isSoundHeedsRowsOfTheSameTime();
        isSoundHeedsTheLifetimeOfToday();
        unsoundCounts();
        Due.end();
    }

    private static void serveTellsTheOnlineCopy() {
        FeatureStore x = new FeatureStore();
        x.pass(10);
        x.arrive(0, 0, 8, 1);
        x.arrive(5, 9, 10, 1);
        Due.answer("serve before take", NONE, x.serve(0, 0));
        x.take(2);
        Due.answer("serve(0, 0)", 0, x.serve(0, 0));
        Due.answer("serve(5, 9)", 1, x.serve(5, 9));
        Due.answer("serve(0, 9)", NONE, x.serve(0, 9));
        x.setLifetime(0, 2);
        Due.answer("serve at the end of the lifetime", 0, x.serve(0, 0));
        x.pass(1);
        Due.answer("serve beyond the lifetime", NONE, x.serve(0, 0));
        Due.answer("servings()", 6, x.servings());
    }

    private static void serveKeepsWhatWasServed() {
        FeatureStore x = new FeatureStore();
        Due.answer("servings() at first", 0, x.servings());
        x.serve(0, 0);
        x.arrive(0, 0, 0, 1);
        x.take(1);
        x.serve(0, 0);
        Due.answer("servings() after two", 2, x.servings());
        x.pass(5);
        x.arrive(0, 0, 5, 1);
        x.take(1);
        x.setLifetime(0, 0);
        Due.answer("served(0)", NONE, x.served(0));
        Due.answer("served(1)", 0, x.served(1));
        x.serve(0, 0);
        Due.answer("served(2)", 1, x.served(2));
        Due.answer("served(1) still", 0, x.served(1));
        Due.answer("servings() after three", 3, x.servings());
    }

    private static void isSoundComparesWithTheJoinOfItsTime() {
        FeatureStore x = new FeatureStore();
        x.pass(10);
        x.serve(0, 0);
        x.pass(1);
        x.arrive(0, 0, 5, 1);
        x.serve(0, 0);
        x.take(1);
        x.serve(0, 0);
        x.arrive(0, 1, 6, 1);
        x.arrive(1, 0, 6, 1);
        Due.truth("isSound of none, the row came later", true, x.isSound(0));
        Due.truth("isSound of none, the row was there", false, x.isSound(1));
        Due.truth("isSound of the row", true, x.isSound(2));
        x.pass(1);
        x.arrive(0, 0, 6, 1);
        Due.truth("isSound of the row after a late row", true, x.isSound(2));
        x.serve(0, 0);
        Due.truth("isSound of the old row", false, x.isSound(3));
    }

    private static void isSoundHeedsRowsOfTheSameTime() {
        FeatureStore x = new FeatureStore();
        x.pass(10);
        x.arrive(0, 0, 5, 1);
        x.take(1);
        x.serve(0, 0);
        Due.truth("isSound at first", true, x.isSound(0));
        x.arrive(0, 0, 4, 1);
        Due.truth("isSound after an earlier event", true, x.isSound(0));
        x.arrive(0, 0, 5, 1);
        Due.truth("isSound after an equal event", false, x.isSound(0));
        x.take(2);
        x.serve(0, 0);
        Due.truth("isSound of the row that was behind", true, x.isSound(1));
        Due.truth("isSound of the first still", false, x.isSound(0));
    }

    private static void isSoundHeedsTheLifetimeOfToday() {
        FeatureStore x = new FeatureStore();
        x.pass(10);
        x.arrive(0, 0, 5, 1);
        x.take(1);
        x.serve(0, 0);
        x.setLifetime(0, 4);
        x.serve(0, 0);
        Due.truth("isSound of a row now beyond its lifetime", false, x.isSound(0));
        Due.truth("isSound of none beyond the lifetime", true, x.isSound(1));
        x.setLifetime(0, 5);
        Due.truth("isSound of a row within its lifetime", true, x.isSound(0));
        Due.truth("isSound of none within the lifetime", false, x.isSound(1));
        x.pass(100);
        Due.truth("isSound looks at its own time", true, x.isSound(0));
    }

    private static void unsoundCounts() {
        FeatureStore x = new FeatureStore();
        Due.answer("unsound() at first", 0, x.unsound());
        x.pass(10);
        x.arrive(0, 0, 5, 1);
        x.serve(0, 0);
        x.serve(0, 0);
        x.serve(0, 1);
        Due.answer("unsound() of two", 2, x.unsound());
        x.take(1);
        x.serve(0, 0);
        Due.answer("unsound() still", 2, x.unsound());
        x.setLifetime(0, 4);
        Due.answer("unsound() with a lifetime", 1, x.unsound());
        x.setLifetime(0, 5);
        x.arrive(0, 0, 6, 1);
        Due.answer("unsound() after a row of the same time", 3, x.unsound());
    }
}
