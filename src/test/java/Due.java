/** Holds answers against the ones that are due, and ends a test with exit code 1 if one was wrong. */
final class Due {
    interface Call {
        long answer();
    }

    interface CallWith {
        long answer(int argument);
    }

    private static int wrong = 0;

    private Due() {
    }

    static void answer(String call, long due, long got) {
        if (got != due) {
            tell(call + " answered " + got + ", due is " + due);
        }
    }

    static void truth(String call, boolean due, boolean got) {
        if (got != due) {
            tell(call + " answered " + got + ", due is " + due);
        }
    }

    /** The call must throw just this exception, no subclass of it: those are the machine's. */
    static void thrown(String call, Class<? extends RuntimeException> due, Call made) {
        end(call, due.getName(), made);
    }

    /**
     * The least and the greatest argument are answered as is due; those next to them, and those at
     * the ends of int, are refused. The call makes an object of its own for each argument.
     */
    static void range(String call, Class<? extends RuntimeException> refusal,
            int least, long dueAtLeast, int greatest, long dueAtGreatest, CallWith made) {
        end(call + " " + least, Long.toString(dueAtLeast), () -> made.answer(least));
        end(call + " " + greatest, Long.toString(dueAtGreatest), () -> made.answer(greatest));
        refused(call, refusal, made, least - 1, greatest + 1, Integer.MIN_VALUE, Integer.MAX_VALUE);
    }

    /** The call with each of these arguments must throw just this exception. */
    static void refused(String call, Class<? extends RuntimeException> refusal, CallWith made,
            int... arguments) {
        for (int argument : arguments) {
            thrown(call + " " + argument, refusal, () -> made.answer(argument));
        }
    }

    /** The answer of a call, or the name of the exception that it threw. */
    static String outcome(Call made) {
        try {
            return Long.toString(made.answer());
        } catch (RuntimeException e) {
            return e.getClass().getName();
        }
    }

    static void tell(String line) {
        wrong++;
        System.out.println(line);
    }

    static void end() {
        if (wrong != 0) {
            System.out.println(wrong + " answers are not as due");
            System.exit(1);
        }
        System.out.println("all answers are as due");
    }

    private static void end(String call, String due, Call made) {
        String got = outcome(made);
        if (!got.equals(due)) {
            tell(call + " ended with " + got + ", due is " + due);
        }
    }
}
