/** Objects that tests begin with. */
final class Stores {
    private Stores() {
    }

    static FeatureStore at(int time) {
        FeatureStore x = new FeatureStore();
        if (time > 0) {
            x.pass(time);
        }
        return x;
    }

    /** A row of (0, 0) for each of these events, all arriving at the same time. */
    static FeatureStore withEvents(int time, int... events) {
        FeatureStore x = at(time);
        for (int event : events) {
            x.arrive(0, 0, event, 1);
        }
        return x;
    }

    /**
     * At the time 7, with the event 3 each: row 0 of (0, 4), row 1 of (5, 4), row 2 of (2, 0) and
     * row 3 of (2, 9); their values are 10, 20, 30 and 40.
     */
    static FeatureStore withCorners() {
        FeatureStore x = at(7);
        x.arrive(0, 4, 3, 10);
        x.arrive(5, 4, 3, 20);
        x.arrive(2, 0, 3, 30);
        x.arrive(2, 9, 3, 40);
        return x;
    }

    /** At the time 199, rows 0 to 199 of (0, 0), each with its number as its event and value. */
    static FeatureStore with200Rows() {
        FeatureStore x = at(199);
        for (int row = 0; row < 200; row++) {
            x.arrive(0, 0, row, row);
        }
        return x;
    }

    /** At the time 0, rows 0 to 199 of (0, 0), all with the event 0 and the greatest value. */
    static FeatureStore withTheGreatestSum() {
        FeatureStore x = at(0);
        for (int row = 0; row < 200; row++) {
            x.arrive(0, 0, 0, 100000);
        }
        return x;
    }

    /** At the time 0, 200 servings: the even ones told row 0 of (0, 0), the odd none of (0, 1). */
    static FeatureStore with200Servings() {
        FeatureStore x = withEvents(0, 0);
        x.take(1);
        for (int serving = 0; serving < 200; serving++) {
            x.serve(0, serving % 2);
        }
        return x;
    }
}
