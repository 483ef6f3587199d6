/** Holds answers against the ones that are due, and ends a test with exit code 1 if one was wrong. */
final class Due {
    interface Call {
        long answer();
    }

    private static int wrong = 0;

    private Due() {
    }

    static void answer(String call, long due, long got) {
        if (got != due) {
            tell(call + " answered " + got + ", due is " + due);
        }
    }

    static void truth(String call, boolean due, boolean got) {
        if (got != due) {
            tell(call + " answered " + got + ", due is " + due);
        }
    }

    /** The call must throw just this exception, no subclass of it: those are the machine's. */
    static void thrown(String call, Class<? extends RuntimeException> due, Call made) {
        String got = outcome(made);
        if (!got.equals(due.getName())) {
            tell(call + " ended with " + got + ", due is " + due.getName());
        }
    }

    /** The answer of a call, or the name of the exception that it threw. */
    static String outcome(Call made) {
        try {
            return Long.toString(made.answer());
        } catch (RuntimeException e) {
            return e.getClass().getName();
        }
    }

    static void tell(String line) {
        wrong++;
        System.out.println(line);
    }

    static void end() {
        if (wrong != 0) {
            System.out.println(wrong + " answers are not as due");
            System.exit(1);
        }
        System.out.println("all answers are as due");
    }
}
