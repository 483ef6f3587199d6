/** Promises 14 to 17 at their bounds. */
final class OnlineCopyBoundsTest {
    private static final int NONE = FeatureStore.NONE;
    private static final Class<IllegalArgumentException> ARGUMENT = IllegalArgumentException.class;
    private static final Class<IllegalStateException> STATE = IllegalStateException.class;

    public static void main(String[] args) {
        takeArguments();
        takeWithoutChanges();
        takeAsManyAsThereAre();
        takeFromWhereItStood();
        takeOf200Rows();
        takeOfEachPair();
        takeOfAnEarlierAnEqualAndALaterEvent();
        takeHeedsNoLifetime();
        lagFrom0To200();
        lagBehindRefusals();
        onlineArguments();
        onlineWithoutRows();
        onlineBeforeTheChangeIsTakenIn();
        onlineAtEachLifetime();
        onlineOfTheLifetimes0And10000();
        onlineComesAgainWithTheLifetime();
        onlineDoesNotFallBackOnAnotherRow();
        skewWithoutRows();
        skewFrom0To60();
        skewOfALateRow();
        skewOfEqualEvents();
        skewAtEachLifetime();
        skewOfTheLifetimes0And10000();
        skewOf200Rows();
        Due.end();
    }

    // ---- promise 14: take

    private static void takeArguments() {
        Due.range("take of 200 rows", ARGUMENT, 1, 1, 200, 200,
                changes -> Stores.with200Rows().take(changes));
        Due.range("take of four rows", ARGUMENT, 1, 1, 200, 4,
                changes -> Stores.withCorners().take(changes));
        Due.range("take without rows", ARGUMENT, 1, 0, 200, 0,
                changes -> Stores.at(0).take(changes));
    }

    private static void takeWithoutChanges() {
        FeatureStore x = Stores.withEvents(3, 3);
        Due.answer("take(1) of one", 1, x.take(1));
        Due.answer("take(1) of none left", 0, x.take(1));
        Due.answer("take(200) of none left", 0, x.take(200));
        Due.answer("online still", 0, x.online(0, 0));
        x.arrive(0, 0, 3, 1);
        Due.answer("take(200) of a new one", 1, x.take(200));
        Due.answer("online of the new one", 1, x.online(0, 0));
    }

    private static void takeAsManyAsThereAre() {
        Due.answer("take(3) of four", 3, Stores.withCorners().take(3));
        Due.answer("take(4) of four", 4, Stores.withCorners().take(4));
        Due.answer("take(5) of four", 4, Stores.withCorners().take(5));
    }

    private static void takeFromWhereItStood() {
        FeatureStore x = Stores.withCorners();
        x.take(1);
        Due.answer("online of row 0 behind take(1)", 0, x.online(0, 4));
        Due.answer("online of row 1 behind take(1)", NONE, x.online(5, 4));
        Due.thrown("take(0)", ARGUMENT, () -> x.take(0));
        Due.thrown("take(201)", ARGUMENT, () -> x.take(201));
        x.take(2);
        Due.answer("online of row 1 behind take(2)", 1, x.online(5, 4));
        Due.answer("online of row 2 behind take(2)", 2, x.online(2, 0));
        Due.answer("online of row 3 behind take(2)", NONE, x.online(2, 9));
        Due.answer("take(2) of the last", 1, x.take(2));
        Due.answer("online of row 3 behind all", 3, x.online(2, 9));
    }

    private static void takeOf200Rows() {
        FeatureStore x = Stores.with200Rows();
        Due.answer("take(199) of 200", 199, x.take(199));
        Due.answer("online behind 199", 198, x.online(0, 0));
        Due.answer("take(200) of the last", 1, x.take(200));
        Due.answer("online behind 200", 199, x.online(0, 0));
        Due.answer("take(1) of none left", 0, x.take(1));
        Due.thrown("arrive of row 200", STATE, () -> x.arrive(0, 0, 0, 0));
        Due.answer("take(1) behind a refusal", 0, x.take(1));
    }

    private static void takeOfEachPair() {
        FeatureStore x = new FeatureStore();
        for (int row = 0; row < 60; row++) {
            x.arrive(row / 10, row % 10, 0, row);
        }
        for (int row = 0; row < 60; row++) {
            Due.answer("online of row " + row + " before", NONE, x.online(row / 10, row % 10));
            Due.answer("take(1) of row " + row, 1, x.take(1));
            Due.answer("online of row " + row + " behind", row, x.online(row / 10, row % 10));
        }
    }

    private static void takeOfAnEarlierAnEqualAndALaterEvent() {
        FeatureStore x = Stores.withEvents(7, 5, 4, 5, 6, 5, 6);
        int[] due = {0, 0, 2, 3, 3, 5};
        for (int row = 0; row < due.length; row++) {
            x.take(1);
            Due.answer("online behind row " + row, due[row], x.online(0, 0));
        }
    }

    /** A row that is too old by one still keeps an earlier event out. */
    private static void takeHeedsNoLifetime() {
        FeatureStore x = Stores.withEvents(7, 4, 3);
        x.setLifetime(0, 2);
        Due.answer("take(2) of rows that are too old", 2, x.take(2));
        Due.answer("online of a row that is too old", NONE, x.online(0, 0));
        x.setLifetime(0, 10000);
        Due.answer("online with the lifetime 10000", 0, x.online(0, 0));
        FeatureStore y = Stores.withEvents(7, 4, 6);
        y.setLifetime(0, 2);
        y.take(2);
        Due.answer("online of a later event behind one too old", 1, y.online(0, 0));
    }

    // ---- promise 15: lag

    private static void lagFrom0To200() {
        FeatureStore x = new FeatureStore();
        Due.answer("lag() at first", 0, x.lag());
        x.take(200);
        Due.answer("lag() behind take of none", 0, x.lag());
        for (int row = 0; row < 200; row++) {
            x.arrive(0, 0, 0, 0);
        }
        Due.answer("lag() of 200", 200, x.lag());
        x.take(1);
        Due.answer("lag() behind take(1)", 199, x.lag());
        x.take(198);
        Due.answer("lag() behind take(198)", 1, x.lag());
        x.take(200);
        Due.answer("lag() behind all", 0, x.lag());
    }

    private static void lagBehindRefusals() {
        FeatureStore x = Stores.with200Rows();
        x.take(1);
        Due.thrown("arrive of row 200", STATE, () -> x.arrive(0, 0, 0, 0));
        Due.thrown("take(0)", ARGUMENT, () -> x.take(0));
        Due.thrown("take(201)", ARGUMENT, () -> x.take(201));
        Due.answer("lag() behind refusals", 199, x.lag());
        x.serve(0, 0);
        x.pass(1);
        Due.answer("lag() behind serve and pass", 199, x.lag());
    }

    // ---- promise 16: online

    private static void onlineArguments() {
        Due.range("online, feature", ARGUMENT, 0, 0, 5, 1, feature -> {
            FeatureStore x = Stores.withCorners();
            x.take(4);
            return x.online(feature, 4);
        });
        Due.range("online, entity", ARGUMENT, 0, 2, 9, 3, entity -> {
            FeatureStore x = Stores.withCorners();
            x.take(4);
            return x.online(2, entity);
        });
    }

    private static void onlineWithoutRows() {
        Due.answer("online at 0 without rows", NONE, Stores.at(0).online(0, 0));
        Due.answer("online at 10000 without rows", NONE, Stores.at(10000).online(5, 9));
        FeatureStore x = Stores.withCorners();
        x.take(4);
        Due.answer("online of another entity", NONE, x.online(0, 5));
        Due.answer("online of another feature", NONE, x.online(1, 4));
    }

    private static void onlineBeforeTheChangeIsTakenIn() {
        FeatureStore x = Stores.withEvents(7, 7);
        Due.answer("online before take", NONE, x.online(0, 0));
        x.take(1);
        Due.answer("online behind take", 0, x.online(0, 0));
        x.arrive(0, 0, 7, 1);
        Due.answer("online before the second take", 0, x.online(0, 0));
    }

    private static void onlineAtEachLifetime() {
        for (int lifetime : new int[] {0, 1, 2, 100, 9989}) {
            FeatureStore x = Stores.withEvents(10, 10);
            x.take(1);
            x.setLifetime(0, lifetime);
            if (lifetime > 0) {
                x.pass(lifetime);
            }
            Due.answer("online at the lifetime " + lifetime, 0, x.online(0, 0));
            x.pass(1);
            Due.answer("online at the lifetime " + lifetime + " and 1", NONE, x.online(0, 0));
        }
    }

    private static void onlineOfTheLifetimes0And10000() {
        FeatureStore x = Stores.withEvents(10000, 0);
        x.take(1);
        Due.answer("online, 10000 old, lifetime 10000", 0, x.online(0, 0));
        x.setLifetime(0, 9999);
        Due.answer("online, 10000 old, lifetime 9999", NONE, x.online(0, 0));
        x.setLifetime(0, 0);
        Due.answer("online, 10000 old, lifetime 0", NONE, x.online(0, 0));
        x.arrive(0, 0, 10000, 1);
        x.take(1);
        Due.answer("online, 0 old, lifetime 0", 1, x.online(0, 0));
    }

    private static void onlineComesAgainWithTheLifetime() {
        FeatureStore x = Stores.withEvents(7, 4);
        x.take(1);
        x.setLifetime(0, 2);
        Due.answer("online, 3 old, lifetime 2", NONE, x.online(0, 0));
        x.setLifetime(0, 3);
        Due.answer("online, 3 old, lifetime 3", 0, x.online(0, 0));
        x.pass(1);
        Due.answer("online, 4 old, lifetime 3", NONE, x.online(0, 0));
        x.setLifetime(0, 4);
        Due.answer("online, 4 old, lifetime 4", 0, x.online(0, 0));
    }

    private static void onlineDoesNotFallBackOnAnotherRow() {
        FeatureStore x = Stores.withEvents(7, 6, 4);
        x.take(2);
        x.arrive(0, 0, 7, 1);
        x.setLifetime(0, 0);
        Due.answer("online, its row is too old by one", NONE, x.online(0, 0));
    }

    // ---- promise 17: skew

    private static void skewWithoutRows() {
        Due.answer("skew() at 0 without rows", 0, Stores.at(0).skew());
        Due.answer("skew() at 10000 without rows", 0, Stores.at(10000).skew());
    }

    private static void skewFrom0To60() {
        FeatureStore x = new FeatureStore();
        for (int row = 0; row < 60; row++) {
            Due.answer("skew() of " + row, row, x.skew());
            x.arrive(row / 10, row % 10, 0, 1);
        }
        for (int row = 0; row < 60; row++) {
            Due.answer("skew() but " + row, 60 - row, x.skew());
            x.take(1);
        }
        Due.answer("skew() of none", 0, x.skew());
    }

    private static void skewOfALateRow() {
        FeatureStore x = Stores.withEvents(7, 5);
        x.take(1);
        x.arrive(0, 0, 4, 1);
        Due.answer("skew() with an earlier event left", 0, x.skew());
        x.take(1);
        Due.answer("skew() with an earlier event taken in", 0, x.skew());
        x.arrive(0, 0, 6, 1);
        Due.answer("skew() with a late later event left", 1, x.skew());
        x.take(1);
        Due.answer("skew() with a late later event taken in", 0, x.skew());
    }

    private static void skewOfEqualEvents() {
        FeatureStore x = Stores.withEvents(7, 5);
        x.take(1);
        x.arrive(0, 0, 5, 1);
        Due.answer("skew() with an equal event left", 1, x.skew());
        x.arrive(0, 0, 5, 1);
        x.take(1);
        Due.answer("skew() with one of two left", 1, x.skew());
        x.take(1);
        Due.answer("skew() with none left", 0, x.skew());
    }

    private static void skewAtEachLifetime() {
        FeatureStore x = Stores.withEvents(7, 4);
        x.take(1);
        x.arrive(0, 0, 5, 1);
        int[] due = {0, 0, 1, 1, 1};
        for (int lifetime = 0; lifetime < due.length; lifetime++) {
            x.setLifetime(0, lifetime);
            Due.answer("skew() of 3 and 2 old, lifetime " + lifetime, due[lifetime], x.skew());
        }
        x.setLifetime(0, 2);
        x.pass(1);
        Due.answer("skew() of 4 and 3 old, lifetime 2", 0, x.skew());
    }

    private static void skewOfTheLifetimes0And10000() {
        FeatureStore x = Stores.withEvents(10000, 0);
        Due.answer("skew(), 10000 old, lifetime 10000", 1, x.skew());
        x.setLifetime(0, 9999);
        Due.answer("skew(), 10000 old, lifetime 9999", 0, x.skew());
        x.setLifetime(0, 0);
        x.arrive(0, 0, 10000, 1);
        Due.answer("skew(), 0 old, lifetime 0", 1, x.skew());
        x.take(2);
        Due.answer("skew(), 0 old and taken in, lifetime 0", 0, x.skew());
    }

    private static void skewOf200Rows() {
        FeatureStore x = Stores.with200Rows();
        Due.answer("skew() with 200 left", 1, x.skew());
        x.take(199);
        Due.answer("skew() with the last left", 1, x.skew());
        x.take(1);
        Due.answer("skew() with none left", 0, x.skew());
    }
}
