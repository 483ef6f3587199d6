/** Promises 1 to 8 at their bounds. */
final class RowsBoundsTest {
    private static final int NONE = FeatureStore.NONE;
    private static final Class<IllegalArgumentException> ARGUMENT = IllegalArgumentException.class;
    private static final Class<IllegalStateException> STATE = IllegalStateException.class;
    private static final Class<IndexOutOfBoundsException> INDEX = IndexOutOfBoundsException.class;

    public static void main(String[] args) {
        aNewObjectIsAtTheTime0();
        aNewObjectHasNoRows();
        aNewObjectHasAnEmptyOnlineCopy();
        aNewObjectHasNoServings();
        aNewObjectHasTheLifetime10000();
        arriveArguments();
        arriveTakesAllTheLeastAndAllTheGreatest();
        arriveFillsUp200Rows();
        arriveOfRow200IsRefusedWhateverHappens();
        arriveThrowsForAnArgumentFirst();
        arriveGivesNoNumberForARefusedCall();
        passArguments();
        passReaches10000();
        passNeverGoesAbove10000();
        passThrowsForAnArgumentFirst();
        passInSmallStepsReaches10000();
        passGoesOnBehindARefusal();
        setLifetimeArguments();
        setLifetimeTellsTheBoundsThatWereSet();
        setLifetimeIsOfOneFeatureAlone();
        setLifetimeHoldsForThePast();
        nowFrom0To10000();
        nowIsChangedByPassAlone();
        rowsFrom0To200();
        valueOfNoRow();
        valueOfTheFirstAndTheLastRow();
        valueAtItsBounds();
        lateOfNoRow();
        lateOfTheFirstAndTheLastRow();
        lateFrom0To10000();
        lateStaysAsTimePasses();
        Due.end();
    }

    // ---- promise 1: a new object

    private static void aNewObjectIsAtTheTime0() {
        FeatureStore x = new FeatureStore();
        Due.answer("now() of a new object", 0, x.now());
        Due.thrown("arrive with the event 1 at 0", ARGUMENT, () -> x.arrive(0, 0, 1, 0));
        Due.thrown("join known at 1 at 0", ARGUMENT, () -> x.join(0, 0, 0, 1));
    }

    private static void aNewObjectHasNoRows() {
        FeatureStore x = new FeatureStore();
        Due.answer("rows() of a new object", 0, x.rows());
        for (int feature = 0; feature <= 5; feature++) {
            for (int entity = 0; entity <= 9; entity++) {
                Due.answer("join without rows", NONE, x.join(feature, entity, 10000, 0));
                Due.answer("window without rows", 0, x.window(feature, entity, 0, 10000));
                Due.answer("greatestTile without rows", 0, x.greatestTile(feature, entity, 1));
                Due.answer("tiles without rows", 0, x.tiles(feature, entity, 1));
                Due.answer("revised without rows", 0, x.revised(feature, entity, 1));
            }
        }
        Due.answer("the first row", 0, x.arrive(0, 0, 0, 0));
    }

    private static void aNewObjectHasAnEmptyOnlineCopy() {
        FeatureStore x = new FeatureStore();
        Due.answer("lag() of a new object", 0, x.lag());
        Due.answer("skew() of a new object", 0, x.skew());
        Due.answer("take(200) of a new object", 0, x.take(200));
        for (int feature = 0; feature <= 5; feature++) {
            for (int entity = 0; entity <= 9; entity++) {
                Due.answer("online of a new object", NONE, x.online(feature, entity));
            }
        }
    }

    private static void aNewObjectHasNoServings() {
        FeatureStore x = new FeatureStore();
        Due.answer("servings() of a new object", 0, x.servings());
        Due.answer("unsound() of a new object", 0, x.unsound());
        Due.thrown("served(0) of a new object", INDEX, () -> x.served(0));
        Due.thrown("isSound(0) of a new object", INDEX, () -> x.isSound(0) ? 1 : 0);
    }

    private static void aNewObjectHasTheLifetime10000() {
        FeatureStore x = new FeatureStore();
        for (int feature = 0; feature <= 5; feature++) {
            x.arrive(feature, 0, 0, 1);
            Due.answer("join of event 0 as of 10000", feature, x.join(feature, 0, 10000, 0));
            Due.answer("the lifetime at first", 10000, x.setLifetime(feature, 10000));
        }
    }

    // ---- promise 2: arrive

    private static void arriveArguments() {
        Due.range("arrive, feature", ARGUMENT, 0, 0, 5, 0,
                feature -> Stores.at(7).arrive(feature, 4, 3, 50));
        Due.range("arrive, entity", ARGUMENT, 0, 0, 9, 0,
                entity -> Stores.at(7).arrive(2, entity, 3, 50));
        Due.range("arrive at 7, event", ARGUMENT, 0, 0, 7, 0,
                event -> Stores.at(7).arrive(2, 4, event, 50));
        Due.range("arrive at 0, event", ARGUMENT, 0, 0, 0, 0,
                event -> Stores.at(0).arrive(2, 4, event, 50));
        Due.range("arrive at 10000, event", ARGUMENT, 0, 0, 10000, 0,
                event -> Stores.at(10000).arrive(2, 4, event, 50));
        Due.range("arrive, value", ARGUMENT, 0, 0, 100000, 0,
                value -> Stores.at(7).arrive(2, 4, 3, value));
    }

    private static void arriveTakesAllTheLeastAndAllTheGreatest() {
        FeatureStore x = new FeatureStore();
        Due.answer("arrive(0, 0, 0, 0)", 0, x.arrive(0, 0, 0, 0));
        x.pass(10000);
        Due.answer("arrive(5, 9, 10000, 100000)", 1, x.arrive(5, 9, 10000, 100000));
        Due.answer("join(0, 0)", 0, x.join(0, 0, 10000, 10000));
        Due.answer("join(5, 9)", 1, x.join(5, 9, 10000, 10000));
        Due.answer("join(5, 9) as of 9999", NONE, x.join(5, 9, 9999, 10000));
        Due.answer("join(0, 9)", NONE, x.join(0, 9, 10000, 10000));
        Due.answer("join(5, 0)", NONE, x.join(5, 0, 10000, 10000));
        Due.thrown("arrive, all the least ints", ARGUMENT, () -> x.arrive(
                Integer.MIN_VALUE, Integer.MIN_VALUE, Integer.MIN_VALUE, Integer.MIN_VALUE));
        Due.thrown("arrive, all the greatest ints", ARGUMENT, () -> x.arrive(
                Integer.MAX_VALUE, Integer.MAX_VALUE, Integer.MAX_VALUE, Integer.MAX_VALUE));
    }

    private static void arriveFillsUp200Rows() {
        FeatureStore x = Stores.at(1);
        for (int row = 0; row < 200; row++) {
            Due.answer("arrive of row " + row, row, x.arrive(row % 6, row % 10, row % 2, row));
        }
        Due.thrown("arrive of row 200", STATE, () -> x.arrive(0, 0, 0, 0));
        Due.thrown("arrive of row 200 again", STATE, () -> x.arrive(5, 9, 1, 100000));
        Due.answer("rows()", 200, x.rows());
        Due.answer("value(199)", 199, x.value(199));
    }

    private static void arriveOfRow200IsRefusedWhateverHappens() {
        FeatureStore x = Stores.with200Rows();
        x.take(200);
        Due.thrown("arrive of row 200, all taken in", STATE, () -> x.arrive(0, 0, 0, 0));
        x.pass(9801);
        x.setLifetime(0, 0);
        Due.thrown("arrive of row 200, all too old", STATE, () -> x.arrive(0, 0, 10000, 0));
        x.serve(0, 0);
        Due.thrown("arrive of row 200, one served", STATE, () -> x.arrive(0, 0, 10000, 0));
        Due.answer("rows()", 200, x.rows());
    }

    private static void arriveThrowsForAnArgumentFirst() {
        Due.refused("arrive to 200 rows, feature", ARGUMENT,
                feature -> Stores.with200Rows().arrive(feature, 0, 0, 0), -1, 6);
        Due.refused("arrive to 200 rows, entity", ARGUMENT,
                entity -> Stores.with200Rows().arrive(0, entity, 0, 0), -1, 10);
        Due.refused("arrive to 200 rows, event", ARGUMENT,
                event -> Stores.with200Rows().arrive(0, 0, event, 0), -1, 200);
        Due.refused("arrive to 200 rows, value", ARGUMENT,
                value -> Stores.with200Rows().arrive(0, 0, 0, value), -1, 100001);
    }

    private static void arriveGivesNoNumberForARefusedCall() {
        FeatureStore x = Stores.withEvents(3, 3);
        Due.thrown("arrive with the event 4 at 3", ARGUMENT, () -> x.arrive(0, 0, 4, 0));
        Due.answer("the row behind a refusal", 1, x.arrive(0, 0, 3, 0));
        Due.answer("take(200)", 2, x.take(200));
    }

    // ---- promise 3: pass

    private static void passArguments() {
        Due.range("pass at 0,", ARGUMENT, 1, 1, 10000, 10000, time -> Stores.at(0).pass(time));
        Due.refused("pass at 7,", ARGUMENT, time -> Stores.at(7).pass(time), 0, -1, -7);
    }

    private static void passReaches10000() {
        Due.answer("pass(9999) at 1", 10000, Stores.at(1).pass(9999));
        Due.answer("pass(5000) at 5000", 10000, Stores.at(5000).pass(5000));
        Due.answer("pass(1) at 9999", 10000, Stores.at(9999).pass(1));
    }

    private static void passNeverGoesAbove10000() {
        Due.thrown("pass(10000) at 1", STATE, () -> Stores.at(1).pass(10000));
        Due.thrown("pass(5001) at 5000", STATE, () -> Stores.at(5000).pass(5001));
        Due.thrown("pass(2) at 9999", STATE, () -> Stores.at(9999).pass(2));
        Due.thrown("pass(1) at 10000", STATE, () -> Stores.at(10000).pass(1));
        Due.thrown("pass(10000) at 10000", STATE, () -> Stores.at(10000).pass(10000));
    }

    private static void passThrowsForAnArgumentFirst() {
        Due.refused("pass at 10000,", ARGUMENT, time -> Stores.at(10000).pass(time),
                0, -1, 10001, Integer.MIN_VALUE, Integer.MAX_VALUE);
        Due.refused("pass at 1,", ARGUMENT, time -> Stores.at(1).pass(time),
                10001, Integer.MAX_VALUE, Integer.MAX_VALUE - 1);
    }

    private static void passInSmallStepsReaches10000() {
        FeatureStore x = new FeatureStore();
        for (int time = 20; time <= 10000; time += 20) {
            Due.answer("pass(20)", time, x.pass(20));
        }
        Due.thrown("pass(1) behind 500 steps", STATE, () -> x.pass(1));
        Due.answer("now() behind 500 steps", 10000, x.now());
    }

    private static void passGoesOnBehindARefusal() {
        FeatureStore x = Stores.at(9990);
        Due.thrown("pass(11) at 9990", STATE, () -> x.pass(11));
        Due.thrown("pass(0) at 9990", ARGUMENT, () -> x.pass(0));
        Due.answer("now() behind refusals", 9990, x.now());
        Due.answer("pass(9) at 9990", 9999, x.pass(9));
        Due.answer("pass(1) at 9999", 10000, x.pass(1));
    }

    // ---- promise 4: setLifetime

    private static void setLifetimeArguments() {
        Due.range("setLifetime, feature", ARGUMENT, 0, 10000, 5, 10000,
                feature -> Stores.at(7).setLifetime(feature, 3));
        Due.range("setLifetime, time", ARGUMENT, 0, 10000, 10000, 10000,
                time -> Stores.at(7).setLifetime(2, time));
    }

    private static void setLifetimeTellsTheBoundsThatWereSet() {
        FeatureStore x = new FeatureStore();
        Due.answer("setLifetime(5, 0) behind none", 10000, x.setLifetime(5, 0));
        Due.answer("setLifetime(5, 0) behind 0", 0, x.setLifetime(5, 0));
        Due.answer("setLifetime(5, 10000) behind 0", 0, x.setLifetime(5, 10000));
        Due.thrown("setLifetime(5, 10001)", ARGUMENT, () -> x.setLifetime(5, 10001));
        Due.thrown("setLifetime(5, -1)", ARGUMENT, () -> x.setLifetime(5, -1));
        Due.answer("setLifetime(5, 1) behind 10000", 10000, x.setLifetime(5, 1));
    }

    private static void setLifetimeIsOfOneFeatureAlone() {
        for (int set = 0; set <= 5; set++) {
            FeatureStore x = new FeatureStore();
            x.setLifetime(set, 0);
            for (int feature = 0; feature <= 5; feature++) {
                Due.answer("the lifetime of " + feature + ", that of " + set + " was set",
                        feature == set ? 0 : 10000, x.setLifetime(feature, 5));
            }
        }
    }

    /** What was found, told and sound goes with the lifetime, and comes again with it. */
    private static void setLifetimeHoldsForThePast() {
        FeatureStore x = Stores.withEvents(0, 0);
        x.take(1);
        x.pass(1);
        x.serve(0, 0);
        x.pass(10);
        x.setLifetime(0, 0);
        Due.answer("join as of 0, lifetime 0", 0, x.join(0, 0, 0, 0));
        Due.answer("join as of 1, lifetime 0", NONE, x.join(0, 0, 1, 0));
        Due.answer("online, lifetime 0", NONE, x.online(0, 0));
        Due.truth("isSound, lifetime 0", false, x.isSound(0));
        x.setLifetime(0, 1);
        Due.answer("join as of 1, lifetime 1", 0, x.join(0, 0, 1, 0));
        Due.answer("join as of 2, lifetime 1", NONE, x.join(0, 0, 2, 0));
        Due.truth("isSound, lifetime 1", true, x.isSound(0));
        x.setLifetime(0, 10000);
        Due.answer("join as of 10000, lifetime 10000", 0, x.join(0, 0, 10000, 0));
        Due.answer("online, lifetime 10000", 0, x.online(0, 0));
    }

    // ---- promise 5: now

    private static void nowFrom0To10000() {
        Due.answer("now() at first", 0, Stores.at(0).now());
        Due.answer("now() behind pass(1)", 1, Stores.at(1).now());
        Due.answer("now() behind pass(9999)", 9999, Stores.at(9999).now());
        Due.answer("now() behind pass(10000)", 10000, Stores.at(10000).now());
    }

    private static void nowIsChangedByPassAlone() {
        FeatureStore x = Stores.at(7);
        x.arrive(0, 0, 3, 9);
        x.take(1);
        x.serve(0, 0);
        x.setLifetime(0, 100);
        x.join(0, 0, 10000, 7);
        Due.answer("now() still", 7, x.now());
    }

    // ---- promise 6: rows

    private static void rowsFrom0To200() {
        FeatureStore x = new FeatureStore();
        Due.answer("rows() at first", 0, x.rows());
        for (int row = 0; row < 200; row++) {
            x.arrive(0, 0, 0, 0);
            Due.answer("rows() behind row " + row, row + 1, x.rows());
        }
        Due.thrown("arrive of row 200", STATE, () -> x.arrive(0, 0, 0, 0));
        Due.answer("rows() behind the refusal", 200, x.rows());
        x.take(200);
        x.serve(0, 0);
        Due.answer("rows() behind take and serve", 200, x.rows());
    }

    // ---- promise 7: value

    private static void valueOfNoRow() {
        Due.refused("value without rows", INDEX, row -> Stores.at(0).value(row),
                0, -1, 1, 199, 200, Integer.MIN_VALUE, Integer.MAX_VALUE);
    }

    private static void valueOfTheFirstAndTheLastRow() {
        Due.range("value of one row", INDEX, 0, 1, 0, 1, row -> Stores.withEvents(0, 0).value(row));
        Due.range("value of four rows", INDEX, 0, 10, 3, 40,
                row -> Stores.withCorners().value(row));
        Due.range("value of 200 rows", INDEX, 0, 0, 199, 199,
                row -> Stores.with200Rows().value(row));
    }

    private static void valueAtItsBounds() {
        FeatureStore x = new FeatureStore();
        x.arrive(0, 0, 0, 0);
        x.arrive(0, 0, 0, 100000);
        Due.answer("value of the least value", 0, x.value(0));
        Due.answer("value of the greatest value", 100000, x.value(1));
    }

    // ---- promise 8: late

    private static void lateOfNoRow() {
        Due.refused("late without rows", INDEX, row -> Stores.at(0).late(row),
                0, -1, 1, 199, 200, Integer.MIN_VALUE, Integer.MAX_VALUE);
    }

    private static void lateOfTheFirstAndTheLastRow() {
        Due.range("late of one row", INDEX, 0, 4, 0, 4, row -> Stores.withEvents(7, 3).late(row));
        Due.range("late of two rows", INDEX, 0, 4, 1, 2,
                row -> Stores.withEvents(7, 3, 5).late(row));
        Due.range("late of 200 rows", INDEX, 0, 199, 199, 0,
                row -> Stores.with200Rows().late(row));
    }

    private static void lateFrom0To10000() {
        FeatureStore x = Stores.withEvents(10000, 10000, 9999, 1, 0);
        Due.answer("late of event 10000", 0, x.late(0));
        Due.answer("late of event 9999", 1, x.late(1));
        Due.answer("late of event 1", 9999, x.late(2));
        Due.answer("late of event 0", 10000, x.late(3));
        Due.answer("late at the time 0", 0, Stores.withEvents(0, 0).late(0));
    }

    private static void lateStaysAsTimePasses() {
        FeatureStore x = Stores.withEvents(7, 7, 6);
        x.pass(9993);
        x.arrive(0, 0, 7, 1);
        Due.answer("late of a row in time", 0, x.late(0));
        Due.answer("late of a row late by 1", 1, x.late(1));
        Due.answer("late of the same event later", 9993, x.late(2));
    }
}
