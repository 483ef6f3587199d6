/**
 * Long runs of calls, the same each time, on the class and on the plain model: each call must end
 * in both with the same answer or the same exception. A call that throws is followed by others,
 * so that a change it left behind shows.
 */
final class ModelRunsTest {
    private static final int RUNS = 400;
    /** The document promises nothing about an object after its 512th call. */
    private static final int CALLS = 512;

    /** How a run chooses its arguments. */
    private final int features;
    private final int entities;
    private final int step;
    private final int oneWrongIn;
    private long seed;
    private final FeatureStore store = new FeatureStore();
    private final PlainModel model = new PlainModel();

    private ModelRunsTest(int run) {
        seed = 7919L * run + 17;
        features = 1 + run % 2;
        entities = 1 + run / 2 % 2;
        step = new int[] {1, 3, 20, 400}[run / 4 % 4];
        oneWrongIn = new int[] {8, 60, 1000}[run % 3];
    }

    public static void main(String[] args) {
        for (int run = 0; run < RUNS; run++) {
            new ModelRunsTest(run).play(run);
        }
        Due.end();
    }

    private void play(int run) {
        for (int call = 0; call < CALLS; call++) {
            if (!nextCall("run " + run + ", call " + call + ": ")) {
                return;
            }
        }
    }

    private boolean nextCall(String where) {
        int kind = random(33);
        if (kind < 15) {
            return nextRowCall(kind, where);
        }
        if (kind < 21) {
            return nextJoinCall(kind - 15, where);
        }
        if (kind < 26) {
            return nextOnlineCall(kind - 21, where);
        }
        return nextServingCall(kind - 26, where);
    }

    private boolean nextRowCall(int kind, String where) {
        int f = feature();
        int row = oneOf(0, model.rows() - 1, 199);
        switch (kind) {
            case 0: {
                int time = random(3) == 0 ? oneOf(0, 10000, 10000) : oneOf(0, step * 4, 10000);
                return same(where + "setLifetime(" + f + ", " + time + ")",
                        () -> store.setLifetime(f, time), () -> model.setLifetime(f, time));
            }
            case 1:
                return same(where + "now()", store::now, model::now);
            case 2:
                return same(where + "rows()", store::rows, model::rows);
            case 3:
                return same(where + "value(" + row + ")",
                        () -> store.value(row), () -> model.value(row));
            case 4:
                return same(where + "late(" + row + ")",
                        () -> store.late(row), () -> model.late(row));
            case 5, 6, 7: {
                int time = oneOf(1, step, 10000);
                return same(where + "pass(" + time + ")",
                        () -> store.pass(time), () -> model.pass(time));
            }
            default: {
                int e = entity();
                int event = random(3) == 0 ? model.now() : timeAbout(model.now(), step * 4, 0);
                int value = oneOf(0, 100000, 100000);
                return same(where + "arrive(" + f + ", " + e + ", " + event + ", " + value + ")",
                        () -> store.arrive(f, e, event, value),
                        () -> model.arrive(f, e, event, value));
            }
        }
    }

    private boolean nextJoinCall(int kind, String where) {
        int f = feature();
        int e = entity();
        int now = model.now();
        int length = oneOf(1, Math.min(10000, step * 8), 10000);
        switch (kind) {
            case 0: {
                int from = oneOf(0, now, 10000);
                int to = oneOf(from, Math.max(from, now), 10000);
                return same(where + "window(" + f + ", " + e + ", " + from + ", " + to + ")",
                        () -> store.window(f, e, from, to), () -> model.window(f, e, from, to));
            }
            case 1:
                return same(where + "greatestTile(" + f + ", " + e + ", " + length + ")",
                        () -> store.greatestTile(f, e, length),
                        () -> model.greatestTile(f, e, length));
            case 2:
                return same(where + "tiles(" + f + ", " + e + ", " + length + ")",
                        () -> store.tiles(f, e, length), () -> model.tiles(f, e, length));
            case 3:
                return same(where + "revised(" + f + ", " + e + ", " + length + ")",
                        () -> store.revised(f, e, length), () -> model.revised(f, e, length));
            default: {
                int time = timeAbout(now, step * 6, step);
                int known = timeAbout(now, step * 3, 0);
                return same(where + "join(" + f + ", " + e + ", " + time + ", " + known + ")",
                        () -> store.join(f, e, time, known), () -> model.join(f, e, time, known));
            }
        }
    }

    private boolean nextOnlineCall(int kind, String where) {
        switch (kind) {
            case 0:
                return same(where + "lag()", store::lag, model::lag);
            case 1:
                return same(where + "skew()", store::skew, model::skew);
            case 2: {
                int f = feature();
                int e = entity();
                return same(where + "online(" + f + ", " + e + ")",
                        () -> store.online(f, e), () -> model.online(f, e));
            }
            default: {
                int changes = oneOf(1, 6, 200);
                return same(where + "take(" + changes + ")",
                        () -> store.take(changes), () -> model.take(changes));
            }
        }
    }

    private boolean nextServingCall(int kind, String where) {
        int serving = oneOf(0, model.servings() - 1, 199);
        switch (kind) {
            case 0:
                return same(where + "servings()", store::servings, model::servings);
            case 1:
                return same(where + "unsound()", store::unsound, model::unsound);
            case 2:
                return same(where + "served(" + serving + ")",
                        () -> store.served(serving), () -> model.served(serving));
            case 3, 4:
                return same(where + "isSound(" + serving + ")",
                        () -> store.isSound(serving) ? 1 : 0, () -> model.isSound(serving) ? 1 : 0);
            default: {
                int f = feature();
                int e = entity();
                return same(where + "serve(" + f + ", " + e + ")",
                        () -> store.serve(f, e), () -> model.serve(f, e));
            }
        }
    }

    private int feature() {
        return oneOf(0, features - 1, 5);
    }

    private int entity() {
        return oneOf(0, entities - 1, 9);
    }

    private int timeAbout(int now, int before, int behind) {
        return oneOf(Math.max(0, now - before), Math.min(10000, now + behind), now);
    }

    private static boolean same(String call, Due.Call got, Due.Call due) {
        String gotOutcome = Due.outcome(got);
        String dueOutcome = Due.outcome(due);
        if (!gotOutcome.equals(dueOutcome)) {
            Due.tell(call + " ended with " + gotOutcome + ", due is " + dueOutcome);
            return false;
        }
        return true;
    }

    /** Mostly a number from least to greatest; now and then one about the bounds of its range. */
    private int oneOf(int least, int greatest, int bound) {
        if (random(oneWrongIn) == 0) {
            return new int[] {-1, 0, bound, bound + 1, Integer.MIN_VALUE, Integer.MAX_VALUE}[random(6)];
        }
        return greatest < least ? least : least + random(greatest - least + 1);
    }

    private int random(int below) {
        seed = seed * 6364136223846793005L + 1442695040888963407L;
        return (int) ((seed >>> 33) % below);
    }
}
