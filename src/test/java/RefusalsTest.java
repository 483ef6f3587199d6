import java.util.List;

/** A call that throws changes nothing: an object that refused calls answers like one without. */
final class RefusalsTest {
    public static void main(String[] args) {
        nothingChangesByWrongArguments();
        nothingChangesByWrongArgumentsAtTheEnd();
        Due.end();
    }

    private static void nothingChangesByWrongArguments() {
        FeatureStore refusing = sample();
        for (Due.Call call : callsWithWrongArguments(refusing)) {
            mustThrow(call);
        }
        compare(sample(), refusing);
    }

    /** With all rows and servings used up and no time left, these calls are refused too. */
    private static void nothingChangesByWrongArgumentsAtTheEnd() {
        FeatureStore refusing = fullSample();
        mustThrow(() -> refusing.arrive(0, 0, 10000, 9));
        mustThrow(() -> refusing.arrive(6, 0, 10000, 9));
        mustThrow(() -> refusing.pass(1));
        mustThrow(() -> refusing.pass(10001));
        mustThrow(() -> refusing.serve(0, 0));
        mustThrow(() -> refusing.serve(0, 10));
        compare(fullSample(), refusing);
    }

    private static FeatureStore sample() {
        FeatureStore x = new FeatureStore();
        x.pass(9000);
        x.arrive(0, 0, 8000, 1);
        x.arrive(0, 0, 8500, 20);
        x.arrive(5, 9, 100, 300);
        x.take(2);
        x.serve(0, 0);
        x.serve(5, 9);
        x.setLifetime(0, 600);
        return x;
    }

    private static FeatureStore fullSample() {
        FeatureStore x = sample();
        x.pass(1000);
        for (int row = 3; row < 200; row++) {
            x.arrive(0, 0, 9800 + row, 5);
        }
        for (int serving = 2; serving < 200; serving++) {
            x.serve(0, 0);
        }
        return x;
    }

    private static List<Due.Call> callsWithWrongArguments(FeatureStore x) {
        return List.of(
                () -> x.arrive(6, 0, 0, 0), () -> x.arrive(0, 10, 0, 0),
                () -> x.arrive(0, 0, 9001, 0), () -> x.arrive(0, 0, 8700, 100001),
                () -> x.pass(0), () -> x.pass(1001), () -> x.pass(10001),
                () -> x.setLifetime(6, 0), () -> x.setLifetime(0, 10001),
                () -> x.setLifetime(0, -1), () -> x.value(3), () -> x.late(-1),
                () -> x.join(0, 0, 10001, 0), () -> x.join(0, 0, 0, 9001),
                () -> x.window(0, 0, 1, 0), () -> x.greatestTile(0, 0, 0),
                () -> x.tiles(0, 0, 0), () -> x.revised(0, 0, 0),
                () -> x.take(0), () -> x.take(201), () -> x.online(0, 10),
                () -> x.serve(0, 10), () -> x.serve(6, 0),
                () -> x.served(2), () -> x.isSound(2) ? 1 : 0);
    }

    private static void mustThrow(Due.Call call) {
        String outcome = Due.outcome(call);
        if (!outcome.startsWith("java.lang.I")) {
            Due.tell("a call that must throw ended with " + outcome);
        }
    }

    private static void compare(FeatureStore plain, FeatureStore refusing) {
        Due.answer("now()", plain.now(), refusing.now());
        Due.answer("rows()", plain.rows(), refusing.rows());
        Due.answer("lag()", plain.lag(), refusing.lag());
        Due.answer("skew()", plain.skew(), refusing.skew());
        Due.answer("servings()", plain.servings(), refusing.servings());
        Due.answer("unsound()", plain.unsound(), refusing.unsound());
        comparePair(plain, refusing, 0, 0);
        comparePair(plain, refusing, 5, 9);
        for (int feature = 0; feature <= 5; feature++) {
            Due.answer("setLifetime(" + feature + ", 10000)",
                    plain.setLifetime(feature, 10000), refusing.setLifetime(feature, 10000));
        }
        comparePair(plain, refusing, 0, 0);
        plain.take(1);
        refusing.take(1);
        comparePair(plain, refusing, 5, 9);
    }

    private static void comparePair(FeatureStore plain, FeatureStore refusing, int f, int e) {
        int now = plain.now();
        Due.answer("online", plain.online(f, e), refusing.online(f, e));
        Due.answer("join", plain.join(f, e, now, now), refusing.join(f, e, now, now));
        Due.answer("window", plain.window(f, e, 0, 10000), refusing.window(f, e, 0, 10000));
        Due.answer("tiles", plain.tiles(f, e, 1), refusing.tiles(f, e, 1));
        Due.answer("revised", plain.revised(f, e, 1), refusing.revised(f, e, 1));
    }
}
