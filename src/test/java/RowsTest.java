/** Promises 1 to 8: a new object, and the rows as they arrive. */
final class RowsTest {
    public static void main(String[] args) {
        aNewObjectIsEmpty();
        objectsShareNothing();
        arriveNumbersRows();
        arriveTakesItsBounds();
        passAddsUpTo10000();
        setLifetimeTellsTheOneBefore();
        valueAndLateTellOfARow();
        Due.end();
    }

    private static void aNewObjectIsEmpty() {
        FeatureStore x = new FeatureStore();
        Due.answer("now() of a new object", 0, x.now());
        Due.answer("rows() of a new object", 0, x.rows());
        Due.answer("lag() of a new object", 0, x.lag());
        Due.answer("skew() of a new object", 0, x.skew());
        Due.answer("servings() of a new object", 0, x.servings());
        Due.answer("unsound() of a new object", 0, x.unsound());
        for (int feature = 0; feature <= 5; feature++) {
            for (int entity = 0; entity <= 9; entity++) {
                Due.answer("online of a new object", FeatureStore.NONE, x.online(feature, entity));
                Due.answer("join of a new object", FeatureStore.NONE, x.join(feature, entity, 0, 0));
            }
            Due.answer("lifetime of a new object", 10000, x.setLifetime(feature, 0));
        }
    }

    private static void objectsShareNothing() {
        FeatureStore x = new FeatureStore();
        FeatureStore y = new FeatureStore();
        x.pass(5);
        x.arrive(1, 1, 3, 4);
        x.take(1);
        x.serve(1, 1);
        x.setLifetime(1, 7);
        Due.answer("now() of another object", 0, y.now());
        Due.answer("rows() of another object", 0, y.rows());
        Due.answer("online(1, 1) of another object", FeatureStore.NONE, y.online(1, 1));
        Due.answer("servings() of another object", 0, y.servings());
        Due.answer("setLifetime(1, 0) of another object", 10000, y.setLifetime(1, 0));
    }

    private static void arriveNumbersRows() {
        FeatureStore x = new FeatureStore();
        Due.answer("first arrive", 0, x.arrive(3, 4, 0, 50));
        Due.answer("rows() after one", 1, x.rows());
        Due.answer("arrive of the same again", 1, x.arrive(3, 4, 0, 50));
        x.pass(10);
        Due.answer("arrive of another pair", 2, x.arrive(0, 0, 10, 1));
        Due.answer("arrive of a late row", 3, x.arrive(3, 4, 9, 2));
        Due.answer("rows() after four", 4, x.rows());
        Due.answer("lag() after four", 4, x.lag());
        Due.answer("now() after arrivals", 10, x.now());
    }

    private static void arriveTakesItsBounds() {
        FeatureStore x = new FeatureStore();
        Due.answer("arrive(0, 0, 0, 0)", 0, x.arrive(0, 0, 0, 0));
        Due.answer("arrive(5, 9, 0, 100000)", 1, x.arrive(5, 9, 0, 100000));
        x.pass(10000);
        Due.answer("arrive(5, 0, 10000, 100000)", 2, x.arrive(5, 0, 10000, 100000));
        Due.answer("arrive(0, 9, 0, 0) at 10000", 3, x.arrive(0, 9, 0, 0));
        Due.answer("value(0)", 0, x.value(0));
        Due.answer("value(1)", 100000, x.value(1));
        Due.answer("late(2)", 0, x.late(2));
        Due.answer("late(3)", 10000, x.late(3));
    }

    private static void passAddsUpTo10000() {
        FeatureStore x = new FeatureStore();
        Due.answer("pass(1)", 1, x.pass(1));
        Due.answer("pass(2)", 3, x.pass(2));
        Due.answer("now()", 3, x.now());
        Due.answer("pass(9997)", 10000, x.pass(9997));
        Due.answer("now() at the end", 10000, x.now());
        Due.answer("pass(10000) of a new object", 10000, new FeatureStore().pass(10000));
    }

    private static void setLifetimeTellsTheOneBefore() {
        FeatureStore x = new FeatureStore();
        Due.answer("setLifetime(0, 5)", 10000, x.setLifetime(0, 5));
        Due.answer("setLifetime(0, 0)", 5, x.setLifetime(0, 0));
        Due.answer("setLifetime(0, 10000)", 0, x.setLifetime(0, 10000));
        Due.answer("setLifetime(5, 10000)", 10000, x.setLifetime(5, 10000));
        Due.answer("setLifetime(5, 1)", 10000, x.setLifetime(5, 1));
        Due.answer("setLifetime(0, 2)", 10000, x.setLifetime(0, 2));
    }

    private static void valueAndLateTellOfARow() {
        FeatureStore x = new FeatureStore();
        x.pass(20);
        x.arrive(2, 3, 20, 11);
        x.arrive(2, 3, 4, 22);
        x.pass(5);
        x.arrive(4, 8, 20, 33);
        x.pass(50);
        Due.answer("value(0)", 11, x.value(0));
        Due.answer("value(1)", 22, x.value(1));
        Due.answer("value(2)", 33, x.value(2));
        Due.answer("late(0)", 0, x.late(0));
        Due.answer("late(1)", 16, x.late(1));
        Due.answer("late(2)", 5, x.late(2));
    }
}
