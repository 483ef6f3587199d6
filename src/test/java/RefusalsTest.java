import java.util.ArrayList;
import java.util.List;

/**
 * A call that throws changes nothing: behind each call that is refused, an object answers, and goes
 * on, like one that was not asked.
 */
final class RefusalsTest {
    private static final Class<IllegalArgumentException> ARGUMENT = IllegalArgumentException.class;
    private static final Class<IllegalStateException> STATE = IllegalStateException.class;
    private static final Class<IndexOutOfBoundsException> INDEX = IndexOutOfBoundsException.class;

    private interface Maker {
        FeatureStore make();
    }

    private interface CallOn {
        long answer(FeatureStore x);
    }

    private record Refused(String name, Class<? extends RuntimeException> due, CallOn call) {
    }

    private final List<Refused> refused = new ArrayList<>();
    private final int now;
    private final int rows;
    private final int servings;

    /** The calls that an object at this time, with so many rows and servings, refuses. */
    private RefusalsTest(int now, int rows, int servings) {
        this.now = now;
        this.rows = rows;
        this.servings = servings;
        addRowCalls();
        addJoinCalls();
        addCopyCalls();
        addServingCalls();
        addStateCalls();
    }

    public static void main(String[] args) {
        new RefusalsTest(0, 0, 0).hold("new", FeatureStore::new);
        new RefusalsTest(9000, 4, 3).hold("in use", RefusalsTest::inUse);
        new RefusalsTest(10000, 4, 3).hold("at 10000", RefusalsTest::at10000);
        new RefusalsTest(9000, 200, 200).hold("full", RefusalsTest::full);
        Due.end();
    }

    // ---- the objects that refuse

    private static FeatureStore inUse() {
        FeatureStore x = Stores.at(9000);
        x.arrive(0, 0, 8000, 1);
        x.arrive(5, 9, 100, 300);
        x.take(2);
        x.serve(0, 0);
        x.serve(5, 9);
        x.arrive(0, 0, 8500, 20);
        x.arrive(2, 3, 9000, 100000);
        x.serve(0, 0);
        x.setLifetime(0, 600);
        return x;
    }

    private static FeatureStore at10000() {
        FeatureStore x = inUse();
        x.pass(1000);
        return x;
    }

    private static FeatureStore full() {
        FeatureStore x = Stores.at(9000);
        for (int row = 0; row < 200; row++) {
            x.arrive(row % 6, row % 10, 8800 + row, row);
        }
        x.take(150);
        for (int serving = 0; serving < 200; serving++) {
            x.serve(serving % 6, serving % 10);
        }
        x.setLifetime(0, 100);
        return x;
    }

    // ---- the calls that are refused

    private void add(String name, Class<? extends RuntimeException> due, CallOn call) {
        refused.add(new Refused(name, due, call));
    }

    private void addRowCalls() {
        for (int feature : new int[] {-1, 6}) {
            add("arrive, feature " + feature, ARGUMENT, x -> x.arrive(feature, 0, 0, 7));
            add("setLifetime, feature " + feature, ARGUMENT, x -> x.setLifetime(feature, 7));
        }
        for (int entity : new int[] {-1, 10}) {
            add("arrive, entity " + entity, ARGUMENT, x -> x.arrive(0, entity, 0, 7));
        }
        for (int event : new int[] {-1, now + 1}) {
            add("arrive, event " + event, ARGUMENT, x -> x.arrive(0, 0, event, 7));
        }
        for (int value : new int[] {-1, 100001}) {
            add("arrive, value " + value, ARGUMENT, x -> x.arrive(0, 0, now, value));
        }
        for (int time : new int[] {-1, 0, 10001}) {
            add("pass, time " + time, ARGUMENT, x -> x.pass(time));
        }
        for (int time : new int[] {-1, 10001}) {
            add("setLifetime, time " + time, ARGUMENT, x -> x.setLifetime(0, time));
        }
        for (int row : new int[] {-1, rows}) {
            add("value, row " + row, INDEX, x -> x.value(row));
            add("late, row " + row, INDEX, x -> x.late(row));
        }
    }

    private void addJoinCalls() {
        for (int feature : new int[] {-1, 6}) {
            add("join, feature " + feature, ARGUMENT, x -> x.join(feature, 0, 0, 0));
            add("window, feature " + feature, ARGUMENT, x -> x.window(feature, 0, 0, 10000));
            add("greatestTile, feature " + feature, ARGUMENT, x -> x.greatestTile(feature, 0, 1));
            add("tiles, feature " + feature, ARGUMENT, x -> x.tiles(feature, 0, 1));
            add("revised, feature " + feature, ARGUMENT, x -> x.revised(feature, 0, 1));
        }
        for (int entity : new int[] {-1, 10}) {
            add("join, entity " + entity, ARGUMENT, x -> x.join(0, entity, 0, 0));
            add("window, entity " + entity, ARGUMENT, x -> x.window(0, entity, 0, 10000));
            add("greatestTile, entity " + entity, ARGUMENT, x -> x.greatestTile(0, entity, 1));
            add("tiles, entity " + entity, ARGUMENT, x -> x.tiles(0, entity, 1));
            add("revised, entity " + entity, ARGUMENT, x -> x.revised(0, entity, 1));
        }
        for (int time : new int[] {-1, 10001}) {
            add("join, time " + time, ARGUMENT, x -> x.join(0, 0, time, 0));
            add("window, from " + time, ARGUMENT, x -> x.window(0, 0, time, 10000));
            add("window, to " + time, ARGUMENT, x -> x.window(0, 0, 0, time));
        }
        for (int known : new int[] {-1, now + 1}) {
            add("join, known " + known, ARGUMENT, x -> x.join(0, 0, 0, known));
        }
        add("window, from 5 to 4", ARGUMENT, x -> x.window(0, 0, 5, 4));
        for (int length : new int[] {-1, 0, 10001}) {
            add("greatestTile, length " + length, ARGUMENT, x -> x.greatestTile(0, 0, length));
            add("tiles, length " + length, ARGUMENT, x -> x.tiles(0, 0, length));
            add("revised, times " + length, ARGUMENT, x -> x.revised(0, 0, length));
        }
    }

    private void addCopyCalls() {
        for (int changes : new int[] {-1, 0, 201}) {
            add("take, changes " + changes, ARGUMENT, x -> x.take(changes));
        }
        for (int feature : new int[] {-1, 6}) {
            add("online, feature " + feature, ARGUMENT, x -> x.online(feature, 0));
        }
        for (int entity : new int[] {-1, 10}) {
            add("online, entity " + entity, ARGUMENT, x -> x.online(0, entity));
        }
    }

    private void addServingCalls() {
        for (int feature : new int[] {-1, 6}) {
            add("serve, feature " + feature, ARGUMENT, x -> x.serve(feature, 0));
        }
        for (int entity : new int[] {-1, 10}) {
            add("serve, entity " + entity, ARGUMENT, x -> x.serve(0, entity));
        }
        for (int serving : new int[] {-1, servings}) {
            add("served, serving " + serving, INDEX, x -> x.served(serving));
            add("isSound, serving " + serving, INDEX, x -> x.isSound(serving) ? 1 : 0);
        }
    }

    private void addStateCalls() {
        if (now > 0) {
            add("pass, one too far", STATE, x -> x.pass(10001 - now));
            add("pass, 10000 too far", STATE, x -> x.pass(10000));
        }
        if (rows == 200) {
            add("arrive, 200 rows", STATE, x -> x.arrive(0, 0, now, 7));
            add("arrive, 200 rows, late", STATE, x -> x.arrive(5, 9, 0, 7));
        }
        if (servings == 200) {
            add("serve, 200 servings", STATE, x -> x.serve(0, 0));
            add("serve, 200 servings, none", STATE, x -> x.serve(5, 8));
        }
    }

    // ---- what is as it was

    private void hold(String state, Maker maker) {
        List<String> due = answers(maker.make());
        for (Refused call : refused) {
            FeatureStore x = maker.make();
            Due.thrown(state + ", " + call.name, call.due, () -> call.call.answer(x));
            List<String> got = answers(x);
            for (int k = 0; k < due.size(); k++) {
                if (!got.get(k).equals(due.get(k))) {
                    Due.tell(state + ", behind " + call.name + ": " + got.get(k)
                            + ", due is " + due.get(k));
                }
            }
        }
    }

    private List<String> answers(FeatureStore x) {
        List<String> answers = new ArrayList<>();
        note(answers, "now()", x::now);
        note(answers, "rows()", x::rows);
        note(answers, "lag()", x::lag);
        note(answers, "skew()", x::skew);
        note(answers, "servings()", x::servings);
        note(answers, "unsound()", x::unsound);
        for (int number : new int[] {0, 1, 2, 3, 149, 150, 199}) {
            note(answers, "value(" + number + ")", () -> x.value(number));
            note(answers, "late(" + number + ")", () -> x.late(number));
            note(answers, "served(" + number + ")", () -> x.served(number));
            note(answers, "isSound(" + number + ")", () -> x.isSound(number) ? 1 : 0);
        }
        // Making a full object takes some 400 of its 512 calls, so few pairs can be asked for.
        for (int pair = 0; pair < 60; pair += rows == 200 ? 20 : 1) {
            notePair(answers, x, pair / 10, pair % 10);
        }
        noteWhatFollows(answers, x);
        return answers;
    }

    private void notePair(List<String> answers, FeatureStore x, int f, int e) {
        String pair = " of " + f + ", " + e;
        note(answers, "online" + pair, () -> x.online(f, e));
        note(answers, "join" + pair, () -> x.join(f, e, now, now));
        note(answers, "window" + pair, () -> x.window(f, e, 0, 10000));
        note(answers, "tiles" + pair, () -> x.tiles(f, e, 1));
        note(answers, "revised" + pair, () -> x.revised(f, e, 1));
    }

    /** What does not show in an answer shows in what comes next. */
    private void noteWhatFollows(List<String> answers, FeatureStore x) {
        for (int feature = 0; feature <= 5; feature++) {
            int f = feature;
            note(answers, "the lifetime of " + f, () -> x.setLifetime(f, 10000));
        }
        note(answers, "the next row", () -> x.arrive(0, 0, now, 50));
        note(answers, "the next serving", () -> x.serve(0, 0));
        note(answers, "the next change", () -> x.take(1));
        note(answers, "online behind it", () -> x.online(0, 0));
        note(answers, "skew behind it", x::skew);
        note(answers, "the other changes", () -> x.take(200));
        note(answers, "online behind them", () -> x.online(0, 0));
        note(answers, "skew behind them", x::skew);
        note(answers, "unsound behind them", x::unsound);
        note(answers, "the next time", () -> x.pass(1));
    }

    private static void note(List<String> answers, String call, Due.Call made) {
        answers.add(call + " ended with " + Due.outcome(made));
    }
}
