/** Promises 9 to 13: joins, windows, tiles, and what late rows have changed. */
final class JoinsTest {
    private static final int NONE = FeatureStore.NONE;

    public static void main(String[] args) {
        joinFindsTheLatestEvent();
        joinPrefersTheGreatestNumber();
        joinLooksAtWhatWasKnown();
        joinLooksAtItsPairAlone();
        joinEndsWithTheLifetime();
        joinDoesNotFallBackOnAnEarlierRow();
        windowSums();
        greatestTileSumsTiles();
        tilesCounts();
        revisedCountsTimes();
        revisedHeedsLifetimes();
        revisedLooksUpToNow();
        Due.end();
    }

    /** Rows 0 to 3 of (2, 3): events 10, 30, 20 at the time 30, and 25 at the time 40. */
    private static FeatureStore sample() {
        FeatureStore x = new FeatureStore();
        x.pass(30);
        x.arrive(2, 3, 10, 100);
        x.arrive(2, 3, 30, 300);
        x.arrive(2, 3, 20, 200);
        x.pass(10);
        x.arrive(2, 3, 25, 250);
        return x;
    }

    private static void joinFindsTheLatestEvent() {
        FeatureStore x = sample();
        Due.answer("join as of 9", NONE, x.join(2, 3, 9, 40));
        Due.answer("join as of 10", 0, x.join(2, 3, 10, 40));
        Due.answer("join as of 19", 0, x.join(2, 3, 19, 40));
        Due.answer("join as of 20", 2, x.join(2, 3, 20, 40));
        Due.answer("join as of 24", 2, x.join(2, 3, 24, 40));
        Due.answer("join as of 25", 3, x.join(2, 3, 25, 40));
        Due.answer("join as of 29", 3, x.join(2, 3, 29, 40));
        Due.answer("join as of 30", 1, x.join(2, 3, 30, 40));
        Due.answer("join as of 10000", 1, x.join(2, 3, 10000, 40));
    }

    private static void joinPrefersTheGreatestNumber() {
        FeatureStore x = new FeatureStore();
        x.pass(10);
        x.arrive(0, 0, 5, 1);
        x.arrive(0, 0, 5, 2);
        x.pass(1);
        x.arrive(0, 0, 5, 3);
        x.arrive(0, 0, 4, 4);
        Due.answer("join of equal events", 2, x.join(0, 0, 5, 11));
        Due.answer("join of equal events as known before", 1, x.join(0, 0, 5, 10));
        Due.answer("join of the earlier event", 3, x.join(0, 0, 4, 11));
    }

    private static void joinLooksAtWhatWasKnown() {
        FeatureStore x = sample();
        Due.answer("join known at 29", NONE, x.join(2, 3, 40, 29));
        Due.answer("join known at 30", 1, x.join(2, 3, 40, 30));
        Due.answer("join as of 25 known at 39", 2, x.join(2, 3, 25, 39));
        Due.answer("join as of 25 known at 40", 3, x.join(2, 3, 25, 40));
        Due.answer("join as of 0 known at 0", NONE, x.join(2, 3, 0, 0));
    }

    private static void joinLooksAtItsPairAlone() {
        FeatureStore x = new FeatureStore();
        x.arrive(0, 0, 0, 1);
        x.arrive(5, 9, 0, 2);
        x.arrive(1, 0, 0, 3);
        x.arrive(0, 1, 0, 4);
        Due.answer("join(0, 0)", 0, x.join(0, 0, 0, 0));
        Due.answer("join(5, 9)", 1, x.join(5, 9, 0, 0));
        Due.answer("join(1, 0)", 2, x.join(1, 0, 0, 0));
        Due.answer("join(0, 1)", 3, x.join(0, 1, 0, 0));
        Due.answer("join(0, 9)", NONE, x.join(0, 9, 0, 0));
        Due.answer("join(5, 0)", NONE, x.join(5, 0, 0, 0));
    }

    private static void joinEndsWithTheLifetime() {
        FeatureStore x = sample();
        x.setLifetime(2, 6);
        Due.answer("join as of 36, lifetime 6", 1, x.join(2, 3, 36, 40));
        Due.answer("join as of 37, lifetime 6", NONE, x.join(2, 3, 37, 40));
        Due.answer("join as of 16, lifetime 6, in the past", 0, x.join(2, 3, 16, 40));
        Due.answer("join as of 17, lifetime 6, in the past", NONE, x.join(2, 3, 17, 40));
        x.setLifetime(2, 0);
        Due.answer("join as of 30, lifetime 0", 1, x.join(2, 3, 30, 40));
        Due.answer("join as of 31, lifetime 0", NONE, x.join(2, 3, 31, 40));
        x.setLifetime(2, 10000);
        x.setLifetime(3, 0);
        Due.answer("join as of 10000, lifetime 10000", 1, x.join(2, 3, 10000, 40));
        FeatureStore y = new FeatureStore();
        y.arrive(0, 0, 0, 0);
        Due.answer("join of event 0 as of 10000", 0, y.join(0, 0, 10000, 0));
        y.setLifetime(0, 9999);
        Due.answer("join of event 0 as of 10000, lifetime 9999", NONE, y.join(0, 0, 10000, 0));
        Due.answer("join of event 0 as of 9999, lifetime 9999", 0, y.join(0, 0, 9999, 0));
    }

    private static void joinDoesNotFallBackOnAnEarlierRow() {
        FeatureStore x = sample();
        x.setLifetime(2, 4);
        Due.answer("join as of 24 known at 40", 2, x.join(2, 3, 24, 40));
        Due.answer("join as of 29 known at 40", 3, x.join(2, 3, 29, 40));
        Due.answer("join as of 29 known at 39", NONE, x.join(2, 3, 29, 39));
    }

    private static void windowSums() {
        FeatureStore x = sample();
        x.arrive(2, 4, 20, 7);
        x.arrive(3, 3, 20, 70);
        x.arrive(2, 3, 20, 1);
        Due.answer("window(0, 10000)", 851, x.window(2, 3, 0, 10000));
        Due.answer("window(10, 30)", 851, x.window(2, 3, 10, 30));
        Due.answer("window(11, 29)", 451, x.window(2, 3, 11, 29));
        Due.answer("window(20, 20)", 201, x.window(2, 3, 20, 20));
        Due.answer("window(21, 24)", 0, x.window(2, 3, 21, 24));
        Due.answer("window(0, 0)", 0, x.window(2, 3, 0, 0));
        Due.answer("window(31, 10000)", 0, x.window(2, 3, 31, 10000));
        x.setLifetime(2, 0);
        Due.answer("window, lifetime 0", 851, x.window(2, 3, 0, 10000));
        Due.answer("window of a pair without rows", 0, x.window(5, 9, 0, 10000));
        Due.answer("window of another entity", 7, x.window(2, 4, 0, 10000));
        Due.answer("window of another feature", 70, x.window(3, 3, 0, 10000));
        x.pass(9960);
        x.arrive(1, 1, 10000, 9);
        x.arrive(1, 1, 0, 8);
        Due.answer("window(10000, 10000)", 9, x.window(1, 1, 10000, 10000));
        Due.answer("window(0, 0) of event 0", 8, x.window(1, 1, 0, 0));
    }

    private static void greatestTileSumsTiles() {
        FeatureStore x = sample();
        x.arrive(2, 4, 30, 9000);
        x.arrive(3, 3, 30, 9000);
        Due.answer("greatestTile(1)", 300, x.greatestTile(2, 3, 1));
        Due.answer("greatestTile(10)", 450, x.greatestTile(2, 3, 10));
        Due.answer("greatestTile(20)", 550 + 200, x.greatestTile(2, 3, 20));
        Due.answer("greatestTile(25)", 550, x.greatestTile(2, 3, 25));
        Due.answer("greatestTile(26)", 550, x.greatestTile(2, 3, 26));
        Due.answer("greatestTile(30)", 550, x.greatestTile(2, 3, 30));
        Due.answer("greatestTile(31)", 850, x.greatestTile(2, 3, 31));
        Due.answer("greatestTile(10000)", 850, x.greatestTile(2, 3, 10000));
        Due.answer("greatestTile without rows", 0, x.greatestTile(0, 0, 1));
        x.arrive(2, 3, 0, 5000);
        Due.answer("greatestTile of the first tile", 5100, x.greatestTile(2, 3, 11));
        x.setLifetime(2, 0);
        Due.answer("greatestTile, lifetime 0", 5100, x.greatestTile(2, 3, 11));
    }

    private static void tilesCounts() {
        FeatureStore x = sample();
        x.arrive(2, 4, 0, 1);
        x.arrive(3, 3, 0, 1);
        x.arrive(2, 3, 20, 0);
        Due.answer("tiles(1)", 4, x.tiles(2, 3, 1));
        Due.answer("tiles(5)", 4, x.tiles(2, 3, 5));
        Due.answer("tiles(6)", 4, x.tiles(2, 3, 6));
        Due.answer("tiles(10)", 3, x.tiles(2, 3, 10));
        Due.answer("tiles(20)", 2, x.tiles(2, 3, 20));
        Due.answer("tiles(30)", 2, x.tiles(2, 3, 30));
        Due.answer("tiles(31)", 1, x.tiles(2, 3, 31));
        Due.answer("tiles(10000)", 1, x.tiles(2, 3, 10000));
        Due.answer("tiles without rows", 0, x.tiles(0, 0, 1));
        x.pass(9960);
        x.arrive(2, 3, 10000, 0);
        Due.answer("tiles(10000) with the event 10000", 2, x.tiles(2, 3, 10000));
        x.setLifetime(2, 0);
        Due.answer("tiles(1), lifetime 0", 5, x.tiles(2, 3, 1));
    }

    private static void revisedCountsTimes() {
        FeatureStore x = sample();
        // Rows 0 and 2 came 20 and 10 too late, and row 3 took over from row 2 up to the time 29.
        Due.answer("revised(1)", 20, x.revised(2, 3, 1));
        Due.answer("revised(10): 10, 20", 2, x.revised(2, 3, 10));
        Due.answer("revised(20): 20", 1, x.revised(2, 3, 20));
        Due.answer("revised(25): 25", 1, x.revised(2, 3, 25));
        Due.answer("revised(29): 29", 1, x.revised(2, 3, 29));
        Due.answer("revised(30)", 0, x.revised(2, 3, 30));
        Due.answer("revised(9): 18, 27", 2, x.revised(2, 3, 9));
        Due.answer("revised(10000)", 0, x.revised(2, 3, 10000));
        Due.answer("revised of a pair without rows", 0, x.revised(0, 0, 1));
        FeatureStore y = new FeatureStore();
        y.arrive(0, 0, 0, 1);
        y.arrive(0, 0, 0, 2);
        Due.answer("revised of rows in time", 0, y.revised(0, 0, 1));
        y.pass(3);
        y.arrive(0, 0, 0, 3);
        Due.answer("revised of an equal event", 3, y.revised(0, 0, 1));
        Due.answer("revised(10000) looks at 0", 1, y.revised(0, 0, 10000));
    }

    private static void revisedHeedsLifetimes() {
        FeatureStore x = sample();
        x.setLifetime(2, 0);
        Due.answer("revised(1), lifetime 0: 10, 20, 25", 3, x.revised(2, 3, 1));
        x.setLifetime(2, 5);
        Due.answer("revised(1), lifetime 5: 10 to 15, 20 to 29", 16, x.revised(2, 3, 1));
        Due.answer("revised(5), lifetime 5: 10, 15, 20, 25", 4, x.revised(2, 3, 5));
        Due.answer("revised(16), lifetime 5", 0, x.revised(2, 3, 16));
    }

    private static void revisedLooksUpToNow() {
        FeatureStore x = new FeatureStore();
        x.pass(10000);
        x.arrive(0, 0, 0, 1);
        Due.answer("revised(1) of 0 to 9999", 10000, x.revised(0, 0, 1));
        Due.answer("revised(9999)", 2, x.revised(0, 0, 9999));
        Due.answer("revised(10000) at 10000", 1, x.revised(0, 0, 10000));
        Due.answer("revised(7)", 1429, x.revised(0, 0, 7));
    }
}
