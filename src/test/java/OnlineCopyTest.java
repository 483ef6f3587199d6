/** Promises 14 to 17: the online copy, its lag and its skew. */
final class OnlineCopyTest {
    private static final int NONE = FeatureStore.NONE;

    public static void main(String[] args) {
        takeTakesInOrder();
        takeKeepsALaterEvent();
        takeHeedsNoLifetime();
        lagCountsWhatIsLeft();
        onlineEndsWithTheLifetime();
        onlineTellsOfItsPairAlone();
        skewCountsPairs();
        skewHeedsLifetimes();
        Due.end();
    }

    private static void takeTakesInOrder() {
        FeatureStore x = new FeatureStore();
        Due.answer("take(1) without rows", 0, x.take(1));
        x.pass(10);
        x.arrive(0, 0, 1, 1);
        x.arrive(1, 0, 1, 1);
        x.arrive(0, 0, 2, 1);
        Due.answer("online before take", NONE, x.online(0, 0));
        Due.answer("take(1)", 1, x.take(1));
        Due.answer("online(0, 0) after one", 0, x.online(0, 0));
        Due.answer("online(1, 0) after one", NONE, x.online(1, 0));
        Due.answer("take(1) again", 1, x.take(1));
        Due.answer("online(0, 0) after two", 0, x.online(0, 0));
        Due.answer("online(1, 0) after two", 1, x.online(1, 0));
        Due.answer("take(200) of one", 1, x.take(200));
        Due.answer("online(0, 0) after three", 2, x.online(0, 0));
        Due.answer("take(200) of none", 0, x.take(200));
        x.arrive(0, 0, 3, 1);
        x.arrive(0, 0, 4, 1);
        x.arrive(0, 0, 5, 1);
        Due.answer("take(2) of three", 2, x.take(2));
        Due.answer("online(0, 0) after five", 4, x.online(0, 0));
    }

    private static void takeKeepsALaterEvent() {
        FeatureStore x = new FeatureStore();
        x.pass(10);
        x.arrive(0, 0, 5, 1);
        x.arrive(0, 0, 4, 1);
        x.arrive(0, 0, 5, 1);
        x.arrive(0, 0, 6, 1);
        x.take(2);
        Due.answer("online after an earlier event", 0, x.online(0, 0));
        Due.answer("lag() counts the change as taken", 2, x.lag());
        x.take(1);
        Due.answer("online after an equal event", 2, x.online(0, 0));
        x.take(1);
        Due.answer("online after a later event", 3, x.online(0, 0));
    }

    private static void takeHeedsNoLifetime() {
        FeatureStore x = new FeatureStore();
        x.pass(10);
        x.setLifetime(0, 0);
        x.arrive(0, 0, 5, 1);
        x.arrive(0, 0, 4, 1);
        x.take(2);
        Due.answer("online of a row that is too old", NONE, x.online(0, 0));
        x.setLifetime(0, 10000);
        Due.answer("online, lifetime 10000", 0, x.online(0, 0));
    }

    private static void lagCountsWhatIsLeft() {
        FeatureStore x = new FeatureStore();
        Due.answer("lag() at first", 0, x.lag());
        for (int row = 0; row < 200; row++) {
            x.arrive(row % 6, row % 10, 0, row);
        }
        Due.answer("lag() of 200", 200, x.lag());
        Due.answer("take(199)", 199, x.take(199));
        Due.answer("lag() of the last", 1, x.lag());
        Due.answer("take(2) of the last", 1, x.take(2));
        Due.answer("lag() of none", 0, x.lag());
        Due.answer("online of the last", 199, x.online(199 % 6, 199 % 10));
    }

    private static void onlineEndsWithTheLifetime() {
        FeatureStore x = new FeatureStore();
        x.pass(10);
        x.arrive(5, 9, 8, 1);
        x.take(1);
        x.setLifetime(5, 2);
        Due.answer("online at the end of the lifetime", 0, x.online(5, 9));
        x.pass(1);
        Due.answer("online beyond the lifetime", NONE, x.online(5, 9));
        x.setLifetime(5, 3);
        Due.answer("online, lifetime longer", 0, x.online(5, 9));
        x.setLifetime(4, 0);
        Due.answer("online, lifetime of another feature", 0, x.online(5, 9));
        x.arrive(5, 9, 11, 1);
        x.take(1);
        x.setLifetime(5, 0);
        Due.answer("online, lifetime 0", 1, x.online(5, 9));
    }

    private static void onlineTellsOfItsPairAlone() {
        FeatureStore x = new FeatureStore();
        for (int feature = 0; feature <= 5; feature++) {
            for (int entity = 0; entity <= 9; entity++) {
                x.arrive(feature, entity, 0, 1);
            }
        }
        x.take(59);
        Due.answer("online of the first pair", 0, x.online(0, 0));
        Due.answer("online(0, 9)", 9, x.online(0, 9));
        Due.answer("online(1, 0)", 10, x.online(1, 0));
        Due.answer("online(3, 4)", 34, x.online(3, 4));
        Due.answer("online of the last pair", NONE, x.online(5, 9));
    }

    private static void skewCountsPairs() {
        FeatureStore x = new FeatureStore();
        x.pass(10);
        for (int feature = 0; feature <= 5; feature++) {
            for (int entity = 0; entity <= 9; entity++) {
                x.arrive(feature, entity, 5, 1);
            }
        }
        Due.answer("skew() of 60 pairs", 60, x.skew());
        x.take(60);
        Due.answer("skew() without lag", 0, x.skew());
        x.arrive(0, 0, 4, 1);
        Due.answer("skew() with an earlier event left", 0, x.skew());
        x.arrive(5, 9, 5, 1);
        Due.answer("skew() with an equal event left", 1, x.skew());
        x.arrive(5, 9, 6, 1);
        x.arrive(0, 0, 6, 1);
        Due.answer("skew() with later events left", 2, x.skew());
        x.take(3);
        Due.answer("skew() with one left", 1, x.skew());
        x.take(1);
        Due.answer("skew() with none left", 0, x.skew());
    }

    private static void skewHeedsLifetimes() {
        FeatureStore x = new FeatureStore();
        x.pass(10);
        x.arrive(0, 0, 5, 1);
        Due.answer("skew(), online none", 1, x.skew());
        x.setLifetime(0, 4);
        Due.answer("skew(), both none", 0, x.skew());
        x.arrive(0, 0, 6, 1);
        Due.answer("skew(), online none again", 1, x.skew());
        x.take(1);
        Due.answer("skew(), online beyond its lifetime", 1, x.skew());
        x.pass(1);
        Due.answer("skew(), both beyond their lifetime", 0, x.skew());
        x.setLifetime(0, 5);
        Due.answer("skew(), the join within its lifetime", 1, x.skew());
        x.setLifetime(0, 6);
        Due.answer("skew(), two rows", 1, x.skew());
        x.take(1);
        Due.answer("skew(), the same row", 0, x.skew());
    }
}
