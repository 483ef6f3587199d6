/** Promises 1 to 8: a new object, and the rows as they arrive. */
final class RowsTest {
    private static final Class<IllegalArgumentException> ARGUMENT = IllegalArgumentException.class;
    private static final Class<IllegalStateException> STATE = IllegalStateException.class;
    private static final Class<IndexOutOfBoundsException> INDEX = IndexOutOfBoundsException.class;

    public static void main(String[] args) {
        aNewObjectIsEmpty();
        objectsShareNothing();
        arriveNumbersRows();
        arriveTakesItsBounds();
        arriveRefusesWhatIsOutOfRange();
        arriveRefusesRow200();
        passAddsUpTo10000();
        passRefuses();
        setLifetimeTellsTheOneBefore();
        setLifetimeRefuses();
        valueAndLateTellOfARow();
        valueAndLateRefuse();
        Due.end();
    }

    private static void aNewObjectIsEmpty() {
        FeatureStore x = new FeatureStore();
        Due.answer("now() of a new object", 0, x.now());
        Due.answer("rows() of a new object", 0, x.rows());
        Due.answer("lag() of a new object", 0, x.lag());
        Due.answer("skew() of a new object", 0, x.skew());
        Due.answer("servings() of a new object", 0, x.servings());
        Due.answer("unsound() of a new object", 0, x.unsound());
        for (int feature = 0; feature <= 5; feature++) {
            for (int entity = 0; entity <= 9; entity++) {
                Due.answer("online of a new object", FeatureStore.NONE, x.online(feature, entity));
                Due.answer("join of a new object", FeatureStore.NONE, x.join(feature, entity, 0, 0));
            }
            Due.answer("lifetime of a new object", 10000, x.setLifetime(feature, 0));
        }
    }

    private static void objectsShareNothing() {
        FeatureStore x = new FeatureStore();
        FeatureStore y = new FeatureStore();
        x.pass(5);
        x.arrive(1, 1, 3, 4);
        x.take(1);
        x.serve(1, 1);
        x.setLifetime(1, 7);
        Due.answer("now() of another object", 0, y.now());
        Due.answer("rows() of another object", 0, y.rows());
        Due.answer("online(1, 1) of another object", FeatureStore.NONE, y.online(1, 1));
        Due.answer("servings() of another object", 0, y.servings());
        Due.answer("setLifetime(1, 0) of another object", 10000, y.setLifetime(1, 0));
    }

    private static void arriveNumbersRows() {
        FeatureStore x = new FeatureStore();
        Due.answer("first arrive", 0, x.arrive(3, 4, 0, 50));
        Due.answer("rows() after one", 1, x.rows());
        Due.answer("arrive of the same again", 1, x.arrive(3, 4, 0, 50));
        x.pass(10);
        Due.answer("arrive of another pair", 2, x.arrive(0, 0, 10, 1));
        Due.answer("arrive of a late row", 3, x.arrive(3, 4, 9, 2));
        Due.answer("rows() after four", 4, x.rows());
        Due.answer("lag() after four", 4, x.lag());
        Due.answer("now() after arrivals", 10, x.now());
    }

    private static void arriveTakesItsBounds() {
        FeatureStore x = new FeatureStore();
        Due.answer("arrive(0, 0, 0, 0)", 0, x.arrive(0, 0, 0, 0));
        Due.answer("arrive(5, 9, 0, 100000)", 1, x.arrive(5, 9, 0, 100000));
        x.pass(10000);
        Due.answer("arrive(5, 0, 10000, 100000)", 2, x.arrive(5, 0, 10000, 100000));
        Due.answer("arrive(0, 9, 0, 0) at 10000", 3, x.arrive(0, 9, 0, 0));
        Due.answer("value(0)", 0, x.value(0));
        Due.answer("value(1)", 100000, x.value(1));
        Due.answer("late(2)", 0, x.late(2));
        Due.answer("late(3)", 10000, x.late(3));
    }

    private static void arriveRefusesWhatIsOutOfRange() {
        FeatureStore x = new FeatureStore();
        x.pass(10);
        Due.thrown("arrive(-1, 0, 0, 0)", ARGUMENT, () -> x.arrive(-1, 0, 0, 0));
        Due.thrown("arrive(6, 0, 0, 0)", ARGUMENT, () -> x.arrive(6, 0, 0, 0));
        Due.thrown("arrive(0, -1, 0, 0)", ARGUMENT, () -> x.arrive(0, -1, 0, 0));
        Due.thrown("arrive(0, 10, 0, 0)", ARGUMENT, () -> x.arrive(0, 10, 0, 0));
        Due.thrown("arrive(0, 0, -1, 0)", ARGUMENT, () -> x.arrive(0, 0, -1, 0));
        Due.thrown("arrive(0, 0, 11, 0)", ARGUMENT, () -> x.arrive(0, 0, 11, 0));
        Due.thrown("arrive(0, 0, 0, -1)", ARGUMENT, () -> x.arrive(0, 0, 0, -1));
        Due.thrown("arrive(0, 0, 0, 100001)", ARGUMENT, () -> x.arrive(0, 0, 0, 100001));
        Due.thrown("arrive of the least ints", ARGUMENT, () -> x.arrive(
                Integer.MIN_VALUE, Integer.MIN_VALUE, Integer.MIN_VALUE, Integer.MIN_VALUE));
        Due.thrown("arrive of the greatest ints", ARGUMENT, () -> x.arrive(
                Integer.MAX_VALUE, Integer.MAX_VALUE, Integer.MAX_VALUE, Integer.MAX_VALUE));
        Due.answer("rows() after refusals", 0, x.rows());
        Due.answer("lag() after refusals", 0, x.lag());
        Due.answer("skew() after refusals", 0, x.skew());
    }

    private static void arriveRefusesRow200() {
        FeatureStore x = new FeatureStore();
        x.pass(1);
        for (int row = 0; row < 200; row++) {
            Due.answer("arrive of row " + row, row, x.arrive(row % 6, row % 10, row % 2, row));
        }
        Due.thrown("arrive of row 200", STATE, () -> x.arrive(0, 0, 0, 0));
        Due.thrown("arrive of row 200, out of range", ARGUMENT, () -> x.arrive(0, 0, 2, 0));
        Due.answer("rows() when full", 200, x.rows());
        Due.answer("lag() when full", 200, x.lag());
        Due.answer("value(199)", 199, x.value(199));
        Due.answer("value(0) when full", 0, x.value(0));
        Due.thrown("value(200)", INDEX, () -> x.value(200));
        Due.thrown("late(200)", INDEX, () -> x.late(200));
        Due.answer("take(200) when full", 200, x.take(200));
        Due.answer("skew() when all is taken in", 0, x.skew());
        Due.thrown("arrive of row 200, all taken in", STATE, () -> x.arrive(0, 0, 0, 0));
    }

    private static void passAddsUpTo10000() {
        FeatureStore x = new FeatureStore();
        Due.answer("pass(1)", 1, x.pass(1));
        Due.answer("pass(2)", 3, x.pass(2));
        Due.answer("now()", 3, x.now());
        Due.answer("pass(9997)", 10000, x.pass(9997));
        Due.answer("now() at the end", 10000, x.now());
        Due.answer("pass(10000) of a new object", 10000, new FeatureStore().pass(10000));
    }

    private static void passRefuses() {
        FeatureStore x = new FeatureStore();
        Due.thrown("pass(0)", ARGUMENT, () -> x.pass(0));
        Due.thrown("pass(-1)", ARGUMENT, () -> x.pass(-1));
        Due.thrown("pass(10001)", ARGUMENT, () -> x.pass(10001));
        Due.thrown("pass(least int)", ARGUMENT, () -> x.pass(Integer.MIN_VALUE));
        Due.thrown("pass(greatest int)", ARGUMENT, () -> x.pass(Integer.MAX_VALUE));
        Due.answer("now() after refusals", 0, x.now());
        x.pass(3);
        Due.thrown("pass(9998) at 3", STATE, () -> x.pass(9998));
        Due.thrown("pass(10000) at 3", STATE, () -> x.pass(10000));
        Due.thrown("pass(10001) at 3", ARGUMENT, () -> x.pass(10001));
        Due.answer("now() still", 3, x.now());
        x.pass(9997);
        Due.thrown("pass(1) at 10000", STATE, () -> x.pass(1));
        Due.answer("now() at the end still", 10000, x.now());
    }

    private static void setLifetimeTellsTheOneBefore() {
        FeatureStore x = new FeatureStore();
        Due.answer("setLifetime(0, 5)", 10000, x.setLifetime(0, 5));
        Due.answer("setLifetime(0, 0)", 5, x.setLifetime(0, 0));
        Due.answer("setLifetime(0, 10000)", 0, x.setLifetime(0, 10000));
        Due.answer("setLifetime(5, 10000)", 10000, x.setLifetime(5, 10000));
        Due.answer("setLifetime(5, 1)", 10000, x.setLifetime(5, 1));
        Due.answer("setLifetime(0, 2)", 10000, x.setLifetime(0, 2));
    }

    private static void setLifetimeRefuses() {
        FeatureStore x = new FeatureStore();
        x.setLifetime(0, 7);
        Due.thrown("setLifetime(-1, 0)", ARGUMENT, () -> x.setLifetime(-1, 0));
        Due.thrown("setLifetime(6, 0)", ARGUMENT, () -> x.setLifetime(6, 0));
        Due.thrown("setLifetime(0, -1)", ARGUMENT, () -> x.setLifetime(0, -1));
        Due.thrown("setLifetime(0, 10001)", ARGUMENT, () -> x.setLifetime(0, 10001));
        Due.answer("setLifetime(0, 8) after refusals", 7, x.setLifetime(0, 8));
    }

    private static void valueAndLateTellOfARow() {
        FeatureStore x = new FeatureStore();
        x.pass(20);
        x.arrive(2, 3, 20, 11);
        x.arrive(2, 3, 4, 22);
        x.pass(5);
        x.arrive(4, 8, 20, 33);
        x.pass(50);
        Due.answer("value(0)", 11, x.value(0));
        Due.answer("value(1)", 22, x.value(1));
        Due.answer("value(2)", 33, x.value(2));
        Due.answer("late(0)", 0, x.late(0));
        Due.answer("late(1)", 16, x.late(1));
        Due.answer("late(2)", 5, x.late(2));
    }

    private static void valueAndLateRefuse() {
        FeatureStore x = new FeatureStore();
        Due.thrown("value(0) without rows", INDEX, () -> x.value(0));
        Due.thrown("late(0) without rows", INDEX, () -> x.late(0));
        x.arrive(0, 0, 0, 1);
        Due.thrown("value(-1)", INDEX, () -> x.value(-1));
        Due.thrown("late(-1)", INDEX, () -> x.late(-1));
        Due.thrown("value(1)", INDEX, () -> x.value(1));
        Due.thrown("late(1)", INDEX, () -> x.late(1));
        Due.thrown("value(200)", INDEX, () -> x.value(200));
        Due.thrown("late(greatest int)", INDEX, () -> x.late(Integer.MAX_VALUE));
        Due.thrown("value(least int)", INDEX, () -> x.value(Integer.MIN_VALUE));
    }
}
