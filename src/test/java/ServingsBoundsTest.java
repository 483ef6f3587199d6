/** Promises 18 to 22 at their bounds. */
final class ServingsBoundsTest {
    private static final int NONE = FeatureStore.NONE;
    private static final Class<IllegalArgumentException> ARGUMENT = IllegalArgumentException.class;
    private static final Class<IllegalStateException> STATE = IllegalStateException.class;
    private static final Class<IndexOutOfBoundsException> INDEX = IndexOutOfBoundsException.class;

    public static void main(String[] args) {
        serveArguments();
        serveWithoutRows();
        serveTells200Times();
        serveThrowsForAnArgumentFirst();
        serveOfServing200IsRefusedWhateverHappens();
        serveAtTheLifetime();
        serveOfTheLifetimes0And10000();
        serveKeepsNothingOfARefusedCall();
        servingsFrom0To200();
        servedOfNoServing();
        servedOfTheFirstAndTheLastServing();
        servedStaysAsItWas();
        isSoundOfNoServing();
        isSoundOfTheFirstAndTheLastServing();
        isSoundOfNoneAndNone();
        isSoundOfNoneWhereThereIsARow();
        isSoundOfARowWhereThereIsNone();
        isSoundWithARowOfTheSameTimeBehind();
        isSoundWithALateRowOfTheSameTimeBehind();
        isSoundWithARowOneLater();
        isSoundWithARowOfAnotherPair();
        isSoundOfTheFirstAndTheLastPair();
        isSoundOfEqualEvents();
        isSoundAtTheLifetime();
        isSoundAtTheTimes0And10000();
        unsoundFrom0To200();
        unsoundOfSome();
        unsoundGoesWithTheLifetime();
        Due.end();
    }

    // ---- promise 18: serve

    private static void serveArguments() {
        Due.range("serve, feature", ARGUMENT, 0, 0, 5, 1, feature -> {
            FeatureStore x = Stores.withCorners();
            x.take(4);
            return x.serve(feature, 4);
        });
        Due.range("serve, entity", ARGUMENT, 0, 2, 9, 3, entity -> {
            FeatureStore x = Stores.withCorners();
            x.take(4);
            return x.serve(2, entity);
        });
    }

    private static void serveWithoutRows() {
        Due.answer("serve at 0 without rows", NONE, Stores.at(0).serve(0, 0));
        Due.answer("serve at 10000 without rows", NONE, Stores.at(10000).serve(5, 9));
        Due.answer("serve before take", NONE, Stores.withEvents(7, 7).serve(0, 0));
    }

    private static void serveTells200Times() {
        FeatureStore x = Stores.withEvents(0, 0);
        x.take(1);
        for (int serving = 0; serving < 200; serving++) {
            Due.answer("serving " + serving, 0, x.serve(0, 0));
        }
        Due.thrown("serving 200", STATE, () -> x.serve(0, 0));
        Due.thrown("serving 200 again", STATE, () -> x.serve(5, 9));
        Due.answer("servings()", 200, x.servings());
        Due.answer("served(199)", 0, x.served(199));
    }

    private static void serveThrowsForAnArgumentFirst() {
        Due.refused("serve behind 200, feature", ARGUMENT,
                feature -> Stores.with200Servings().serve(feature, 0), -1, 6);
        Due.refused("serve behind 200, entity", ARGUMENT,
                entity -> Stores.with200Servings().serve(0, entity), -1, 10);
    }

    private static void serveOfServing200IsRefusedWhateverHappens() {
        FeatureStore x = Stores.with200Servings();
        x.pass(10000);
        Due.thrown("serving 200 at 10000", STATE, () -> x.serve(0, 0));
        x.setLifetime(0, 0);
        Due.thrown("serving 200 of none", STATE, () -> x.serve(0, 0));
        x.arrive(0, 0, 10000, 1);
        x.take(1);
        Due.thrown("serving 200 of a new row", STATE, () -> x.serve(0, 0));
        Due.answer("servings()", 200, x.servings());
    }

    private static void serveAtTheLifetime() {
        FeatureStore x = Stores.withEvents(7, 4);
        x.take(1);
        x.setLifetime(0, 2);
        Due.answer("serve, 3 old, lifetime 2", NONE, x.serve(0, 0));
        x.setLifetime(0, 3);
        Due.answer("serve, 3 old, lifetime 3", 0, x.serve(0, 0));
        x.pass(1);
        Due.answer("serve, 4 old, lifetime 3", NONE, x.serve(0, 0));
    }

    private static void serveOfTheLifetimes0And10000() {
        FeatureStore x = Stores.withEvents(10000, 0);
        x.take(1);
        Due.answer("serve, 10000 old, lifetime 10000", 0, x.serve(0, 0));
        x.setLifetime(0, 9999);
        Due.answer("serve, 10000 old, lifetime 9999", NONE, x.serve(0, 0));
        x.arrive(0, 0, 10000, 1);
        x.take(1);
        x.setLifetime(0, 0);
        Due.answer("serve, 0 old, lifetime 0", 1, x.serve(0, 0));
    }

    private static void serveKeepsNothingOfARefusedCall() {
        FeatureStore x = Stores.withCorners();
        x.take(4);
        x.serve(0, 4);
        Due.thrown("serve(6, 4)", ARGUMENT, () -> x.serve(6, 4));
        Due.thrown("serve(2, 10)", ARGUMENT, () -> x.serve(2, 10));
        Due.answer("servings() behind refusals", 1, x.servings());
        Due.answer("serve behind refusals", 1, x.serve(5, 4));
        Due.answer("served(1) behind refusals", 1, x.served(1));
        Due.thrown("served(2) behind refusals", INDEX, () -> x.served(2));
    }

    // ---- promise 19: servings

    private static void servingsFrom0To200() {
        FeatureStore x = new FeatureStore();
        Due.answer("servings() at first", 0, x.servings());
        for (int serving = 0; serving < 200; serving++) {
            x.serve(0, 0);
            Due.answer("servings() behind " + serving, serving + 1, x.servings());
        }
        Due.thrown("serving 200", STATE, () -> x.serve(0, 0));
        Due.answer("servings() behind the refusal", 200, x.servings());
    }

    // ---- promise 20: served

    private static void servedOfNoServing() {
        Due.refused("served without servings", INDEX,
                serving -> Stores.withCorners().served(serving),
                0, -1, 1, 199, 200, Integer.MIN_VALUE, Integer.MAX_VALUE);
    }

    private static void servedOfTheFirstAndTheLastServing() {
        Due.range("served of two", INDEX, 0, 3, 1, NONE, serving -> {
            FeatureStore x = Stores.withCorners();
            x.take(4);
            x.serve(2, 9);
            x.serve(2, 8);
            return x.served(serving);
        });
        Due.range("served of 200", INDEX, 0, 0, 199, NONE,
                serving -> Stores.with200Servings().served(serving));
    }

    private static void servedStaysAsItWas() {
        FeatureStore x = Stores.withEvents(7, 7);
        x.serve(0, 0);
        x.take(1);
        x.serve(0, 0);
        x.arrive(0, 0, 7, 1);
        x.take(1);
        x.pass(1);
        x.setLifetime(0, 0);
        Due.answer("served(0), none when it was served", NONE, x.served(0));
        Due.answer("served(1), too old by one now", 0, x.served(1));
    }

    // ---- promise 21: isSound

    private static void isSoundOfNoServing() {
        Due.refused("isSound without servings", INDEX,
                serving -> Stores.withCorners().isSound(serving) ? 1 : 0,
                0, -1, 1, 199, 200, Integer.MIN_VALUE, Integer.MAX_VALUE);
    }

    private static void isSoundOfTheFirstAndTheLastServing() {
        Due.range("isSound of two", INDEX, 0, 0, 1, 1, serving -> {
            FeatureStore x = Stores.withEvents(7, 7);
            x.serve(0, 0);
            x.take(1);
            x.serve(0, 0);
            return x.isSound(serving) ? 1 : 0;
        });
        Due.range("isSound of 200", INDEX, 0, 1, 199, 0, serving -> {
            FeatureStore x = Stores.with200Servings();
            x.arrive(0, 1, 0, 1);
            return x.isSound(serving) ? 1 : 0;
        });
    }

    private static void isSoundOfNoneAndNone() {
        FeatureStore x = Stores.at(7);
        x.serve(0, 0);
        Due.truth("isSound without rows", true, x.isSound(0));
        x.arrive(0, 0, 4, 1);
        x.take(1);
        x.setLifetime(0, 2);
        x.serve(0, 0);
        Due.truth("isSound, the row is too old by one", true, x.isSound(1));
    }

    private static void isSoundOfNoneWhereThereIsARow() {
        FeatureStore x = Stores.withEvents(7, 4);
        x.serve(0, 0);
        Due.truth("isSound before take", false, x.isSound(0));
        x.take(1);
        Due.truth("isSound before take, taken in behind", false, x.isSound(0));
    }

    private static void isSoundOfARowWhereThereIsNone() {
        FeatureStore x = Stores.withEvents(7, 4);
        x.take(1);
        x.serve(0, 0);
        x.setLifetime(0, 3);
        Due.truth("isSound, 3 old, lifetime 3", true, x.isSound(0));
        x.setLifetime(0, 2);
        Due.truth("isSound, 3 old, lifetime 2", false, x.isSound(0));
    }

    private static void isSoundWithARowOfTheSameTimeBehind() {
        FeatureStore x = Stores.withEvents(7, 6);
        x.take(1);
        x.serve(0, 0);
        x.serve(0, 1);
        Due.truth("isSound of a row at first", true, x.isSound(0));
        Due.truth("isSound of none at first", true, x.isSound(1));
        x.arrive(0, 0, 7, 1);
        x.arrive(0, 1, 7, 1);
        Due.truth("isSound of a row with one behind", false, x.isSound(0));
        Due.truth("isSound of none with one behind", false, x.isSound(1));
        x.pass(1);
        x.take(2);
        Due.truth("isSound of a row when time has passed", false, x.isSound(0));
        Due.truth("isSound of none when time has passed", false, x.isSound(1));
    }

    private static void isSoundWithALateRowOfTheSameTimeBehind() {
        FeatureStore x = Stores.withEvents(7, 5);
        x.take(1);
        x.serve(0, 0);
        x.arrive(0, 0, 4, 1);
        Due.truth("isSound with an earlier event behind", true, x.isSound(0));
        x.arrive(0, 0, 6, 1);
        Due.truth("isSound with a late later event behind", false, x.isSound(0));
        x.serve(0, 1);
        x.arrive(0, 1, 0, 1);
        Due.truth("isSound of none with the event 0 behind", false, x.isSound(1));
    }

    private static void isSoundWithARowOneLater() {
        FeatureStore x = Stores.withEvents(7, 5);
        x.take(1);
        x.serve(0, 0);
        x.serve(0, 1);
        x.pass(1);
        x.arrive(0, 0, 6, 1);
        x.arrive(0, 0, 5, 1);
        x.arrive(0, 1, 0, 1);
        Due.truth("isSound, a later event came one later", true, x.isSound(0));
        Due.truth("isSound of none, a row came one later", true, x.isSound(1));
        x.serve(0, 0);
        Due.truth("isSound of the next serving", false, x.isSound(2));
    }

    private static void isSoundWithARowOfAnotherPair() {
        FeatureStore x = Stores.withEvents(7, 5);
        x.take(1);
        x.serve(0, 0);
        x.arrive(0, 1, 7, 1);
        x.arrive(1, 0, 7, 1);
        Due.truth("isSound with rows of other pairs behind", true, x.isSound(0));
        x.setLifetime(1, 0);
        Due.truth("isSound with another lifetime 0", true, x.isSound(0));
    }

    private static void isSoundOfTheFirstAndTheLastPair() {
        FeatureStore x = Stores.at(7);
        x.arrive(0, 0, 5, 1);
        x.arrive(5, 9, 6, 1);
        x.take(2);
        x.serve(0, 0);
        x.serve(5, 9);
        Due.truth("isSound of (0, 0)", true, x.isSound(0));
        Due.truth("isSound of (5, 9)", true, x.isSound(1));
        x.setLifetime(5, 0);
        Due.truth("isSound of (0, 0), lifetime 0 of 5", true, x.isSound(0));
        Due.truth("isSound of (5, 9), lifetime 0 of 5", false, x.isSound(1));
        x.setLifetime(5, 1);
        Due.truth("isSound of (5, 9), lifetime 1 of 5", true, x.isSound(1));
        x.arrive(5, 9, 6, 1);
        Due.truth("isSound of (0, 0) with a row of (5, 9) behind", true, x.isSound(0));
        Due.truth("isSound of (5, 9) with its row behind", false, x.isSound(1));
        Due.answer("unsound() of (0, 0) and (5, 9)", 1, x.unsound());
    }

    private static void isSoundOfEqualEvents() {
        FeatureStore x = Stores.withEvents(7, 5, 5);
        x.take(1);
        x.serve(0, 0);
        Due.truth("isSound of the first of equal events", false, x.isSound(0));
        x.take(1);
        x.serve(0, 0);
        Due.truth("isSound of the last of equal events", true, x.isSound(1));
        x.pass(1);
        x.arrive(0, 0, 5, 1);
        Due.truth("isSound, an equal event came one later", true, x.isSound(1));
        x.take(1);
        x.serve(0, 0);
        Due.truth("isSound of the one that came later", true, x.isSound(2));
    }

    private static void isSoundAtTheLifetime() {
        FeatureStore x = Stores.withEvents(7, 7);
        x.take(1);
        x.serve(0, 0);
        x.pass(1);
        x.serve(0, 0);
        x.setLifetime(0, 0);
        Due.truth("isSound, 0 old, lifetime 0", true, x.isSound(0));
        Due.truth("isSound, 1 old, lifetime 0", false, x.isSound(1));
        x.setLifetime(0, 1);
        Due.truth("isSound, 1 old, lifetime 1", true, x.isSound(1));
        x.pass(1);
        x.serve(0, 0);
        Due.answer("served(2), 2 old, lifetime 1", NONE, x.served(2));
        Due.truth("isSound of none, 2 old, lifetime 1", true, x.isSound(2));
        x.setLifetime(0, 2);
        Due.truth("isSound of none, 2 old, lifetime 2", false, x.isSound(2));
    }

    private static void isSoundAtTheTimes0And10000() {
        FeatureStore x = Stores.withEvents(0, 0);
        x.serve(0, 0);
        x.take(1);
        x.serve(0, 0);
        x.pass(10000);
        x.serve(0, 0);
        Due.truth("isSound at 0 before take", false, x.isSound(0));
        Due.truth("isSound at 0 behind take", true, x.isSound(1));
        Due.truth("isSound at 10000, 10000 old", true, x.isSound(2));
        x.setLifetime(0, 9999);
        Due.truth("isSound at 10000, lifetime 9999", false, x.isSound(2));
        x.setLifetime(0, 10000);
        x.arrive(0, 0, 10000, 1);
        Due.truth("isSound at 10000 with a row behind", false, x.isSound(2));
        Due.truth("isSound at 0 still", true, x.isSound(1));
    }

    // ---- promise 22: unsound

    private static void unsoundFrom0To200() {
        FeatureStore x = new FeatureStore();
        Due.answer("unsound() without servings", 0, x.unsound());
        for (int serving = 0; serving < 200; serving++) {
            x.serve(0, 0);
        }
        Due.answer("unsound() of 200 that are sound", 0, x.unsound());
        x.arrive(0, 0, 0, 1);
        Due.answer("unsound() of 200 with a row behind", 200, x.unsound());
        Due.thrown("serving 200", STATE, () -> x.serve(0, 0));
        Due.answer("unsound() behind the refusal", 200, x.unsound());
    }

    private static void unsoundOfSome() {
        FeatureStore x = Stores.with200Servings();
        Due.answer("unsound() of row and none", 0, x.unsound());
        x.arrive(0, 1, 0, 1);
        Due.answer("unsound() with a row where none was told", 100, x.unsound());
        x.pass(1);
        x.arrive(0, 0, 1, 1);
        Due.answer("unsound() with a row one later", 100, x.unsound());
    }

    private static void unsoundGoesWithTheLifetime() {
        FeatureStore x = Stores.withEvents(7, 4);
        x.take(1);
        x.serve(0, 0);
        x.pass(1);
        x.serve(0, 0);
        x.setLifetime(0, 4);
        Due.answer("unsound() of 3 and 4 old, lifetime 4", 0, x.unsound());
        x.setLifetime(0, 3);
        Due.answer("unsound() of 3 and 4 old, lifetime 3", 1, x.unsound());
        x.setLifetime(0, 2);
        Due.answer("unsound() of 3 and 4 old, lifetime 2", 2, x.unsound());
        x.setLifetime(0, 10000);
        Due.answer("unsound() of 3 and 4 old, lifetime 10000", 0, x.unsound());
    }
}
