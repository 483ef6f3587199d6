/** Promises 9 to 13 at their bounds. */
final class JoinsBoundsTest {
    private static final int NONE = FeatureStore.NONE;
    private static final Class<IllegalArgumentException> ARGUMENT = IllegalArgumentException.class;

    public static void main(String[] args) {
        joinArguments();
        joinKnowsUpToNow();
        joinWithoutRows();
        joinFromTheEventOn();
        joinFromTheArrivalOn();
        joinOfTheEvents0And10000();
        joinOfAnEventAtEachLifetime();
        joinWithTheLifetime0();
        joinOfATooOldRowFindsNoOther();
        joinOfEqualEvents();
        joinOfALateRow();
        joinOf200Rows();
        windowArguments();
        windowFromAndToAreIncluded();
        windowWithoutRows();
        windowOfEqualEvents();
        windowOfRowsThatArriveNow();
        windowHeedsNoLifetime();
        windowOf200Rows();
        greatestTileArguments();
        greatestTileWithoutRows();
        greatestTileFromItsFirstToItsLastEvent();
        greatestTileOfTheEvent10000();
        greatestTileIsTheFirstAMiddleOrTheLast();
        greatestTileOfValues0();
        greatestTileOfEqualAndLateEvents();
        greatestTileOf200Rows();
        tilesArguments();
        tilesWithoutRows();
        tilesFromTheirFirstToTheirLastEvent();
        tilesOfTheEvent10000();
        tilesOfValues0();
        tilesOfEqualAndLateEvents();
        tilesOf200Rows();
        revisedArguments();
        revisedWithoutRows();
        revisedByARowInTime();
        revisedByARowLateByOne();
        revisedAtTheTime0();
        revisedUpToNow();
        revisedUpToTheTime10000();
        revisedByEqualEvents();
        revisedFromNoneAndFromAnotherRow();
        revisedBehindALaterEvent();
        revisedAtEachLifetime();
        revisedBy200Rows();
        Due.end();
    }

    // ---- promise 9: join

    private static void joinArguments() {
        Due.range("join, feature", ARGUMENT, 0, 0, 5, 1,
                feature -> Stores.withCorners().join(feature, 4, 7, 7));
        Due.range("join, entity", ARGUMENT, 0, 2, 9, 3,
                entity -> Stores.withCorners().join(2, entity, 7, 7));
        Due.range("join at 7, time", ARGUMENT, 0, 1, 10000, 0,
                time -> Stores.withEvents(7, 7, 0).join(0, 0, time, 7));
        Due.range("join at 0, time", ARGUMENT, 0, 0, 10000, 0,
                time -> Stores.withEvents(0, 0).join(0, 0, time, 0));
        Due.thrown("join, all the greatest ints", ARGUMENT, () -> Stores.at(7).join(
                Integer.MAX_VALUE, Integer.MAX_VALUE, Integer.MAX_VALUE, Integer.MAX_VALUE));
    }

    private static void joinKnowsUpToNow() {
        Due.range("join at 0, known", ARGUMENT, 0, 0, 0, 0,
                known -> Stores.withEvents(0, 0).join(0, 0, 0, known));
        Due.range("join at 7, known", ARGUMENT, 0, NONE, 7, 0,
                known -> Stores.withEvents(7, 3).join(0, 0, 7, known));
        Due.range("join at 10000, known", ARGUMENT, 0, NONE, 10000, 0,
                known -> Stores.withEvents(10000, 3).join(0, 0, 7, known));
    }

    private static void joinWithoutRows() {
        Due.answer("join at 0 without rows", NONE, Stores.at(0).join(0, 0, 0, 0));
        Due.answer("join at 10000 without rows", NONE, Stores.at(10000).join(5, 9, 10000, 10000));
        Due.answer("join of another entity", NONE, Stores.withCorners().join(0, 5, 7, 7));
        Due.answer("join of another feature", NONE, Stores.withCorners().join(1, 4, 7, 7));
    }

    private static void joinFromTheEventOn() {
        FeatureStore x = Stores.withEvents(7, 5);
        Due.answer("join as of 4 with the event 5", NONE, x.join(0, 0, 4, 7));
        Due.answer("join as of 5 with the event 5", 0, x.join(0, 0, 5, 7));
        Due.answer("join as of 6 with the event 5", 0, x.join(0, 0, 6, 7));
    }

    private static void joinFromTheArrivalOn() {
        FeatureStore x = Stores.withEvents(7, 5);
        x.pass(3);
        Due.answer("join known at 6, arrival 7", NONE, x.join(0, 0, 10, 6));
        Due.answer("join known at 7, arrival 7", 0, x.join(0, 0, 10, 7));
        Due.answer("join known at 8, arrival 7", 0, x.join(0, 0, 10, 8));
        Due.answer("join known at now", 0, x.join(0, 0, 10, 10));
    }

    private static void joinOfTheEvents0And10000() {
        FeatureStore x = Stores.withEvents(10000, 0, 10000);
        Due.answer("join as of 0", 0, x.join(0, 0, 0, 10000));
        Due.answer("join as of 9999", 0, x.join(0, 0, 9999, 10000));
        Due.answer("join as of 10000", 1, x.join(0, 0, 10000, 10000));
        Due.answer("join as of 10000 known at 9999", NONE, x.join(0, 0, 10000, 9999));
    }

    private static void joinOfAnEventAtEachLifetime() {
        for (int lifetime : new int[] {0, 1, 2, 100, 9989, 9990}) {
            FeatureStore x = Stores.withEvents(10, 10);
            x.setLifetime(0, lifetime);
            String call = "join at the lifetime " + lifetime;
            Due.answer(call, 0, x.join(0, 0, 10 + lifetime, 10));
            if (lifetime < 9990) {
                Due.answer(call + " and 1", NONE, x.join(0, 0, 11 + lifetime, 10));
            }
        }
        FeatureStore x = Stores.withEvents(0, 0);
        Due.answer("join, 10000 old, lifetime 10000", 0, x.join(0, 0, 10000, 0));
        x.setLifetime(0, 9999);
        Due.answer("join, 9999 old, lifetime 9999", 0, x.join(0, 0, 9999, 0));
        Due.answer("join, 10000 old, lifetime 9999", NONE, x.join(0, 0, 10000, 0));
    }

    private static void joinWithTheLifetime0() {
        FeatureStore x = Stores.withEvents(7, 5, 6);
        x.setLifetime(0, 0);
        Due.answer("join as of 4, lifetime 0", NONE, x.join(0, 0, 4, 7));
        Due.answer("join as of 5, lifetime 0", 0, x.join(0, 0, 5, 7));
        Due.answer("join as of 6, lifetime 0", 1, x.join(0, 0, 6, 7));
        Due.answer("join as of 7, lifetime 0", NONE, x.join(0, 0, 7, 7));
    }

    private static void joinOfATooOldRowFindsNoOther() {
        FeatureStore x = Stores.withEvents(9, 4, 4);
        x.setLifetime(0, 3);
        Due.answer("join as of 7, event 4, lifetime 3", 1, x.join(0, 0, 7, 9));
        Due.answer("join as of 8, event 4, lifetime 3", NONE, x.join(0, 0, 8, 9));
        x.arrive(0, 0, 3, 1);
        Due.answer("join as of 8 with an earlier event", NONE, x.join(0, 0, 8, 9));
        x.arrive(0, 0, 5, 1);
        Due.answer("join as of 8 with the event 5", 3, x.join(0, 0, 8, 9));
    }

    private static void joinOfEqualEvents() {
        FeatureStore x = Stores.withEvents(5, 5, 5);
        x.pass(1);
        x.arrive(0, 0, 5, 1);
        x.arrive(0, 0, 4, 1);
        x.pass(1);
        x.arrive(0, 0, 5, 1);
        Due.answer("join of equal events known at 4", NONE, x.join(0, 0, 5, 4));
        Due.answer("join of equal events known at 5", 1, x.join(0, 0, 5, 5));
        Due.answer("join of equal events known at 6", 2, x.join(0, 0, 5, 6));
        Due.answer("join of equal events known at 7", 4, x.join(0, 0, 5, 7));
        Due.answer("join of the event before", 3, x.join(0, 0, 4, 7));
    }

    /** A late row goes to its place: before all, between two, and behind all. */
    private static void joinOfALateRow() {
        FeatureStore x = Stores.withEvents(20, 10, 14);
        x.pass(1);
        x.arrive(0, 0, 9, 1);
        x.arrive(0, 0, 12, 1);
        x.arrive(0, 0, 15, 1);
        int[] known20 = {NONE, NONE, 0, 0, 0, 0, 1, 1};
        int[] known21 = {NONE, 2, 0, 0, 3, 3, 1, 4};
        for (int time = 8; time <= 15; time++) {
            Due.answer("join as of " + time + " known at 20", known20[time - 8],
                    x.join(0, 0, time, 20));
            Due.answer("join as of " + time + " known at 21", known21[time - 8],
                    x.join(0, 0, time, 21));
        }
    }

    private static void joinOf200Rows() {
        FeatureStore x = Stores.with200Rows();
        Due.answer("join as of 0", 0, x.join(0, 0, 0, 199));
        Due.answer("join as of 1", 1, x.join(0, 0, 1, 199));
        Due.answer("join as of 198", 198, x.join(0, 0, 198, 199));
        Due.answer("join as of 199", 199, x.join(0, 0, 199, 199));
        Due.answer("join as of 200", 199, x.join(0, 0, 200, 199));
        Due.answer("join known at 198", NONE, x.join(0, 0, 200, 198));
    }

    // ---- promise 10: window

    private static void windowArguments() {
        Due.range("window, feature", ARGUMENT, 0, 10, 5, 20,
                feature -> Stores.withCorners().window(feature, 4, 0, 10000));
        Due.range("window, entity", ARGUMENT, 0, 30, 9, 40,
                entity -> Stores.withCorners().window(2, entity, 0, 10000));
        Due.range("window to 10000, from", ARGUMENT, 0, 3, 10000, 1,
                from -> Stores.withEvents(10000, 0, 5, 10000).window(0, 0, from, 10000));
        Due.range("window to 5, from", ARGUMENT, 0, 2, 5, 1,
                from -> Stores.withEvents(10000, 0, 5, 10000).window(0, 0, from, 5));
        Due.range("window from 0, to", ARGUMENT, 0, 1, 10000, 3,
                to -> Stores.withEvents(10000, 0, 5, 10000).window(0, 0, 0, to));
        Due.range("window from 5, to", ARGUMENT, 5, 1, 10000, 2,
                to -> Stores.withEvents(10000, 0, 5, 10000).window(0, 0, 5, to));
        Due.range("window from 10000, to", ARGUMENT, 10000, 1, 10000, 1,
                to -> Stores.withEvents(10000, 0, 5, 10000).window(0, 0, 10000, to));
        Due.thrown("window from -2 to -1", ARGUMENT, () -> Stores.at(7).window(0, 0, -2, -1));
        Due.thrown("window from 10001 to 10002", ARGUMENT,
                () -> Stores.at(7).window(0, 0, 10001, 10002));
    }

    private static void windowFromAndToAreIncluded() {
        FeatureStore x = Stores.at(9);
        x.arrive(0, 0, 4, 1);
        x.arrive(0, 0, 5, 10);
        x.arrive(0, 0, 6, 100);
        x.arrive(0, 0, 7, 1000);
        Due.answer("window(4, 7)", 1111, x.window(0, 0, 4, 7));
        Due.answer("window(5, 7)", 1110, x.window(0, 0, 5, 7));
        Due.answer("window(4, 6)", 111, x.window(0, 0, 4, 6));
        Due.answer("window(5, 6)", 110, x.window(0, 0, 5, 6));
        Due.answer("window(5, 5)", 10, x.window(0, 0, 5, 5));
        Due.answer("window(0, 3)", 0, x.window(0, 0, 0, 3));
        Due.answer("window(8, 10000)", 0, x.window(0, 0, 8, 10000));
    }

    private static void windowWithoutRows() {
        Due.answer("window at 0 without rows", 0, Stores.at(0).window(0, 0, 0, 10000));
        Due.answer("window at 10000 without rows", 0, Stores.at(10000).window(5, 9, 0, 10000));
        Due.answer("window of another entity", 0, Stores.withCorners().window(0, 5, 0, 10000));
        Due.answer("window of another feature", 0, Stores.withCorners().window(1, 4, 0, 10000));
    }

    private static void windowOfEqualEvents() {
        FeatureStore x = Stores.at(9);
        x.arrive(0, 0, 5, 7);
        x.arrive(0, 0, 5, 7);
        x.arrive(0, 0, 5, 30);
        Due.answer("window of equal events", 44, x.window(0, 0, 5, 5));
        Due.answer("window before equal events", 0, x.window(0, 0, 0, 4));
        Due.answer("window behind equal events", 0, x.window(0, 0, 6, 10000));
    }

    private static void windowOfRowsThatArriveNow() {
        FeatureStore x = Stores.withEvents(5, 5);
        x.pass(5);
        Due.answer("window before a late row", 1, x.window(0, 0, 0, 10));
        x.arrive(0, 0, 4, 20);
        Due.answer("window with a late row of now", 21, x.window(0, 0, 0, 10));
        x.arrive(0, 0, 10, 300);
        Due.answer("window with a row in time", 321, x.window(0, 0, 0, 10));
        Due.answer("window up to 9", 21, x.window(0, 0, 0, 9));
    }

    private static void windowHeedsNoLifetime() {
        FeatureStore x = Stores.withEvents(10000, 0, 1, 9999, 10000);
        x.setLifetime(0, 0);
        Due.answer("window, lifetime 0", 4, x.window(0, 0, 0, 10000));
        Due.answer("window of the oldest, lifetime 0", 1, x.window(0, 0, 0, 0));
    }

    private static void windowOf200Rows() {
        FeatureStore x = Stores.with200Rows();
        Due.answer("window of 200 rows", 19900, x.window(0, 0, 0, 199));
        Due.answer("window but the first and the last", 19701, x.window(0, 0, 1, 198));
        FeatureStore y = Stores.withTheGreatestSum();
        Due.answer("window with the greatest sum", 20000000, y.window(0, 0, 0, 0));
    }

    // ---- promise 11: greatestTile

    private static void greatestTileArguments() {
        Due.range("greatestTile, feature", ARGUMENT, 0, 10, 5, 20,
                feature -> Stores.withCorners().greatestTile(feature, 4, 7));
        Due.range("greatestTile, entity", ARGUMENT, 0, 30, 9, 40,
                entity -> Stores.withCorners().greatestTile(2, entity, 7));
        Due.range("greatestTile, length", ARGUMENT, 1, 1, 10000, 3,
                length -> Stores.withEvents(10000, 0, 1, 9999, 10000).greatestTile(0, 0, length));
        Due.range("greatestTile without rows, length", ARGUMENT, 1, 0, 10000, 0,
                length -> Stores.at(0).greatestTile(0, 0, length));
    }

    private static void greatestTileWithoutRows() {
        Due.answer("greatestTile at 10000", 0, Stores.at(10000).greatestTile(5, 9, 10000));
        Due.answer("greatestTile of another entity", 0, Stores.withCorners().greatestTile(0, 5, 1));
        Due.answer("greatestTile of another feature", 0,
                Stores.withCorners().greatestTile(1, 4, 1));
    }

    /** With the length 10, tile 1 goes from 10 to 19: neither 9 nor 20 are in it. */
    private static void greatestTileFromItsFirstToItsLastEvent() {
        FeatureStore x = Stores.at(30);
        x.arrive(0, 0, 9, 100);
        x.arrive(0, 0, 10, 61);
        x.arrive(0, 0, 19, 62);
        x.arrive(0, 0, 20, 100);
        Due.answer("greatestTile(10): 10 and 19", 123, x.greatestTile(0, 0, 10));
        Due.answer("greatestTile(9): 19 and 20", 162, x.greatestTile(0, 0, 9));
        Due.answer("greatestTile(19): 19 and 20", 162, x.greatestTile(0, 0, 19));
        Due.answer("greatestTile(20): 9 to 19", 223, x.greatestTile(0, 0, 20));
        Due.answer("greatestTile(21): 9 to 20", 323, x.greatestTile(0, 0, 21));
        Due.answer("greatestTile(1): each its own", 100, x.greatestTile(0, 0, 1));
    }

    private static void greatestTileOfTheEvent10000() {
        FeatureStore x = Stores.at(10000);
        x.arrive(0, 0, 0, 3);
        x.arrive(0, 0, 9999, 4);
        x.arrive(0, 0, 10000, 5);
        Due.answer("greatestTile(10000): 0 to 9999", 7, x.greatestTile(0, 0, 10000));
        Due.answer("greatestTile(9999): 9999 and 10000", 9, x.greatestTile(0, 0, 9999));
        x.arrive(0, 0, 10000, 3);
        Due.answer("greatestTile(10000): 10000", 8, x.greatestTile(0, 0, 10000));
    }

    private static void greatestTileIsTheFirstAMiddleOrTheLast() {
        for (int great = 0; great < 3; great++) {
            FeatureStore x = Stores.at(29);
            for (int tile = 0; tile < 3; tile++) {
                x.arrive(0, 0, tile * 10, 5);
                x.arrive(0, 0, tile * 10 + 9, tile == great ? 4 : 3);
            }
            Due.answer("greatestTile, it is tile " + great, 9, x.greatestTile(0, 0, 10));
        }
    }

    private static void greatestTileOfValues0() {
        FeatureStore x = Stores.at(9);
        x.arrive(0, 0, 0, 0);
        x.arrive(0, 0, 9, 0);
        Due.answer("greatestTile of values 0", 0, x.greatestTile(0, 0, 5));
        x.arrive(0, 0, 9, 1);
        Due.answer("greatestTile of a value 1", 1, x.greatestTile(0, 0, 5));
    }

    private static void greatestTileOfEqualAndLateEvents() {
        FeatureStore x = Stores.withEvents(9, 9, 5, 9);
        x.setLifetime(0, 0);
        Due.answer("greatestTile of equal events", 2, x.greatestTile(0, 0, 1));
        x.pass(100);
        x.arrive(0, 0, 9, 1);
        x.arrive(0, 0, 4, 1);
        Due.answer("greatestTile of equal and late events", 3, x.greatestTile(0, 0, 1));
        Due.answer("greatestTile(5): 5 to 9", 4, x.greatestTile(0, 0, 5));
        Due.answer("greatestTile(10): 0 to 9", 5, x.greatestTile(0, 0, 10));
    }

    private static void greatestTileOf200Rows() {
        FeatureStore x = Stores.with200Rows();
        Due.answer("greatestTile(1) of 200 rows", 199, x.greatestTile(0, 0, 1));
        Due.answer("greatestTile(100) of 200 rows", 14950, x.greatestTile(0, 0, 100));
        Due.answer("greatestTile(199) of 200 rows", 19701, x.greatestTile(0, 0, 199));
        Due.answer("greatestTile(200) of 200 rows", 19900, x.greatestTile(0, 0, 200));
        FeatureStore y = Stores.withTheGreatestSum();
        Due.answer("greatestTile(1) with the greatest sum", 20000000, y.greatestTile(0, 0, 1));
        Due.answer("greatestTile(10000) with it", 20000000, y.greatestTile(0, 0, 10000));
    }

    // ---- promise 12: tiles

    private static void tilesArguments() {
        Due.range("tiles, feature", ARGUMENT, 0, 1, 5, 2, feature -> {
            FeatureStore x = Stores.withCorners();
            x.arrive(5, 4, 7, 1);
            return x.tiles(feature, 4, 1);
        });
        Due.range("tiles, entity", ARGUMENT, 0, 1, 9, 2, entity -> {
            FeatureStore x = Stores.withCorners();
            x.arrive(2, 9, 7, 1);
            return x.tiles(2, entity, 1);
        });
        Due.range("tiles, length", ARGUMENT, 1, 4, 10000, 2,
                length -> Stores.withEvents(10000, 0, 1, 9999, 10000).tiles(0, 0, length));
        Due.range("tiles without rows, length", ARGUMENT, 1, 0, 10000, 0,
                length -> Stores.at(0).tiles(0, 0, length));
    }

    private static void tilesWithoutRows() {
        Due.answer("tiles at 10000 without rows", 0, Stores.at(10000).tiles(5, 9, 10000));
        Due.answer("tiles of another entity", 0, Stores.withCorners().tiles(0, 5, 1));
        Due.answer("tiles of another feature", 0, Stores.withCorners().tiles(1, 4, 1));
    }

    private static void tilesFromTheirFirstToTheirLastEvent() {
        FeatureStore x = Stores.withEvents(30, 10, 19);
        Due.answer("tiles(10) of 10 and 19", 1, x.tiles(0, 0, 10));
        Due.answer("tiles(9) of 10 and 19", 2, x.tiles(0, 0, 9));
        x.arrive(0, 0, 9, 1);
        Due.answer("tiles(10) with 9", 2, x.tiles(0, 0, 10));
        x.arrive(0, 0, 20, 1);
        Due.answer("tiles(10) with 9 and 20", 3, x.tiles(0, 0, 10));
        x.arrive(0, 0, 0, 1);
        Due.answer("tiles(10) with 0, 9 and 20", 3, x.tiles(0, 0, 10));
        Due.answer("tiles(20) with 0, 9 and 20", 2, x.tiles(0, 0, 20));
        Due.answer("tiles(21) with 0, 9 and 20", 1, x.tiles(0, 0, 21));
        Due.answer("tiles(1) with 0, 9 and 20", 5, x.tiles(0, 0, 1));
    }

    private static void tilesOfTheEvent10000() {
        Due.answer("tiles(10000) of 0", 1, Stores.withEvents(10000, 0).tiles(0, 0, 10000));
        Due.answer("tiles(10000) of 10000", 1, Stores.withEvents(10000, 10000).tiles(0, 0, 10000));
        FeatureStore x = Stores.withEvents(10000, 0, 9999, 10000);
        Due.answer("tiles(10000) of 0, 9999 and 10000", 2, x.tiles(0, 0, 10000));
        Due.answer("tiles(9999) of 0, 9999 and 10000", 2, x.tiles(0, 0, 9999));
        Due.answer("tiles(1) of 0, 9999 and 10000", 3, x.tiles(0, 0, 1));
    }

    private static void tilesOfValues0() {
        FeatureStore x = Stores.at(9);
        x.arrive(0, 0, 9, 0);
        Due.answer("tiles of a value 0", 1, x.tiles(0, 0, 10));
        x.arrive(0, 0, 0, 0);
        Due.answer("tiles of two values 0", 2, x.tiles(0, 0, 9));
    }

    private static void tilesOfEqualAndLateEvents() {
        FeatureStore x = Stores.withEvents(9, 9, 5, 9);
        x.setLifetime(0, 0);
        Due.answer("tiles(1) of equal events", 2, x.tiles(0, 0, 1));
        x.pass(100);
        x.arrive(0, 0, 9, 1);
        x.arrive(0, 0, 5, 1);
        Due.answer("tiles(1) of late equal events", 2, x.tiles(0, 0, 1));
        x.arrive(0, 0, 4, 1);
        Due.answer("tiles(1) with another late event", 3, x.tiles(0, 0, 1));
        Due.answer("tiles(5) with another late event", 2, x.tiles(0, 0, 5));
    }

    private static void tilesOf200Rows() {
        FeatureStore x = Stores.with200Rows();
        Due.answer("tiles(1) of 200 rows", 200, x.tiles(0, 0, 1));
        Due.answer("tiles(2) of 200 rows", 100, x.tiles(0, 0, 2));
        Due.answer("tiles(3) of 200 rows", 67, x.tiles(0, 0, 3));
        Due.answer("tiles(199) of 200 rows", 2, x.tiles(0, 0, 199));
        Due.answer("tiles(200) of 200 rows", 1, x.tiles(0, 0, 200));
        Due.answer("tiles(1) of 200 equal events", 1, Stores.withTheGreatestSum().tiles(0, 0, 1));
    }

    // ---- promise 13: revised

    private static void revisedArguments() {
        Due.range("revised, feature", ARGUMENT, 0, 4, 5, 2, feature -> {
            FeatureStore x = Stores.withCorners();
            x.setLifetime(5, 1);
            return x.revised(feature, 4, 1);
        });
        Due.range("revised, entity", ARGUMENT, 0, 4, 9, 6, entity -> {
            FeatureStore x = Stores.withCorners();
            x.arrive(2, 9, 1, 1);
            return x.revised(2, entity, 1);
        });
        Due.range("revised at 10000, times", ARGUMENT, 1, 10000, 10000, 1,
                times -> Stores.withEvents(10000, 0).revised(0, 0, times));
        Due.range("revised at 7, times", ARGUMENT, 1, 7, 10000, 1,
                times -> Stores.withEvents(7, 0).revised(0, 0, times));
        Due.range("revised without rows, times", ARGUMENT, 1, 0, 10000, 0,
                times -> Stores.at(0).revised(0, 0, times));
    }

    private static void revisedWithoutRows() {
        Due.answer("revised at 10000 without rows", 0, Stores.at(10000).revised(5, 9, 1));
        Due.answer("revised of another entity", 0, Stores.withCorners().revised(0, 5, 1));
        Due.answer("revised of another feature", 0, Stores.withCorners().revised(1, 4, 1));
    }

    private static void revisedByARowInTime() {
        Due.answer("revised at 0 by the event 0", 0, Stores.withEvents(0, 0).revised(0, 0, 1));
        FeatureStore x = Stores.withEvents(5, 5);
        Due.answer("revised at 5 by the event 5", 0, x.revised(0, 0, 1));
        x.pass(9995);
        Due.answer("revised at 10000 by the event 5", 0, x.revised(0, 0, 1));
        x.arrive(0, 0, 10000, 1);
        Due.answer("revised at 10000 by the event 10000", 0, x.revised(0, 0, 1));
    }

    private static void revisedByARowLateByOne() {
        FeatureStore x = Stores.withEvents(5, 4);
        Due.answer("revised(1): 4", 1, x.revised(0, 0, 1));
        Due.answer("revised(2): 4", 1, x.revised(0, 0, 2));
        Due.answer("revised(3): none", 0, x.revised(0, 0, 3));
        Due.answer("revised(4): 4", 1, x.revised(0, 0, 4));
        Due.answer("revised(5): none", 0, x.revised(0, 0, 5));
        Due.answer("revised(10000): none", 0, x.revised(0, 0, 10000));
    }

    private static void revisedAtTheTime0() {
        FeatureStore x = Stores.withEvents(1, 0);
        Due.answer("revised(1): 0", 1, x.revised(0, 0, 1));
        Due.answer("revised(2): 0", 1, x.revised(0, 0, 2));
        Due.answer("revised(10000): 0", 1, x.revised(0, 0, 10000));
    }

    /** At now both joins know the same; a time that has passed goes on to count, once. */
    private static void revisedUpToNow() {
        FeatureStore x = Stores.withEvents(7, 3);
        Due.answer("revised(1) at 7: 3 to 6", 4, x.revised(0, 0, 1));
        Due.answer("revised(6) at 7: 6", 1, x.revised(0, 0, 6));
        Due.answer("revised(7) at 7: none", 0, x.revised(0, 0, 7));
        Due.answer("revised(8) at 7: none", 0, x.revised(0, 0, 8));
        x.pass(1);
        Due.answer("revised(1) at 8: 3 to 6", 4, x.revised(0, 0, 1));
        x.arrive(0, 0, 7, 1);
        Due.answer("revised(1) at 8: 3 to 7", 5, x.revised(0, 0, 1));
        Due.answer("revised(7) at 8: 7", 1, x.revised(0, 0, 7));
        Due.answer("revised(8) at 8: none", 0, x.revised(0, 0, 8));
    }

    private static void revisedUpToTheTime10000() {
        FeatureStore x = Stores.withEvents(10000, 9999);
        Due.answer("revised(1) at 10000: 9999", 1, x.revised(0, 0, 1));
        Due.answer("revised(9999) at 10000: 9999", 1, x.revised(0, 0, 9999));
        Due.answer("revised(3333) at 10000: 9999", 1, x.revised(0, 0, 3333));
        Due.answer("revised(10000) at 10000: none", 0, x.revised(0, 0, 10000));
        x.arrive(0, 0, 0, 1);
        Due.answer("revised(1) at 10000: 0 to 9999", 10000, x.revised(0, 0, 1));
        Due.answer("revised(9999) at 10000: 0, 9999", 2, x.revised(0, 0, 9999));
        Due.answer("revised(10000) at 10000: 0", 1, x.revised(0, 0, 10000));
    }

    private static void revisedByEqualEvents() {
        FeatureStore x = Stores.withEvents(3, 3, 3);
        x.pass(1);
        Due.answer("revised by equal events in time", 0, x.revised(0, 0, 1));
        x.arrive(0, 0, 3, 1);
        Due.answer("revised(1) by the third: 3", 1, x.revised(0, 0, 1));
        x.pass(3);
        x.arrive(0, 0, 3, 1);
        x.arrive(0, 0, 3, 1);
        Due.answer("revised(1) by the last: 3 to 6, once each", 4, x.revised(0, 0, 1));
        Due.answer("revised(3) by the last: 3, 6", 2, x.revised(0, 0, 3));
    }

    private static void revisedFromNoneAndFromAnotherRow() {
        FeatureStore x = Stores.withEvents(4, 4);
        x.pass(6);
        x.arrive(0, 0, 2, 1);
        Due.answer("revised from none: 2, 3", 2, x.revised(0, 0, 1));
        x.arrive(0, 0, 8, 1);
        Due.answer("revised from another too: 8, 9", 4, x.revised(0, 0, 1));
    }

    private static void revisedBehindALaterEvent() {
        FeatureStore x = Stores.withEvents(8, 8);
        x.pass(12);
        x.arrive(0, 0, 5, 1);
        Due.answer("revised(1): 5 to 7", 3, x.revised(0, 0, 1));
        Due.answer("revised(8): none", 0, x.revised(0, 0, 8));
        Due.answer("revised(7): 7", 1, x.revised(0, 0, 7));
    }

    private static void revisedAtEachLifetime() {
        int[] lifetimes = {0, 1, 18, 19, 20, 9999, 10000};
        int[] due = {1, 2, 19, 20, 20, 20, 20};
        FeatureStore x = Stores.withEvents(30, 10);
        for (int k = 0; k < lifetimes.length; k++) {
            x.setLifetime(0, lifetimes[k]);
            Due.answer("revised(1), lifetime " + lifetimes[k], due[k], x.revised(0, 0, 1));
        }
        x.setLifetime(0, 9);
        Due.answer("revised(19), 9 old, lifetime 9", 1, x.revised(0, 0, 19));
        Due.answer("revised(20), 10 old, lifetime 9", 0, x.revised(0, 0, 20));
    }

    private static void revisedBy200Rows() {
        FeatureStore x = Stores.with200Rows();
        Due.answer("revised(1) by 200 rows: 0 to 198", 199, x.revised(0, 0, 1));
        Due.answer("revised(198) by 200 rows: 0, 198", 2, x.revised(0, 0, 198));
        Due.answer("revised(199) by 200 rows: 0", 1, x.revised(0, 0, 199));
        x.setLifetime(0, 0);
        Due.answer("revised(1) by 200 rows, lifetime 0", 199, x.revised(0, 0, 1));
    }
}
