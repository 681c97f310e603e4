/** Counts the answers that are not due, for a test whose main method ends with end(). */
final class Check {
    interface Call {
        long answer();
    }

    private static final int MOST_TOLD = 30;

    private static int wrong = 0;
    private static int checks = 0;
    private static String sentence = "";

    private Check() {
    }

    /** A test of its own for what these words of the document say; it must check something. */
    static void sentence(String where, String words, Runnable test) {
        int before = checks;
        sentence = where + ", \"" + words + "\": ";
        try {
            test.run();
        } catch (RuntimeException e) {
            fail("a call that is due to answer threw " + e);
        }
        if (checks == before) {
            fail("nothing was checked");
        }
        sentence = "";
    }

    static void due(String what, Object got, Object want) {
        checks++;
        if (!String.valueOf(got).equals(String.valueOf(want))) {
            fail(what + " answered " + got + ", due is " + want);
        }
    }

    private static void fail(String told) {
        wrong++;
        if (wrong <= MOST_TOLD) {
            System.out.println(sentence + told);
        }
    }

    static void refused(String what, Class<? extends RuntimeException> want, Call call) {
        due(what, outcome(call), "throws." + want.getSimpleName());
    }

    static void refused(String what, Class<? extends RuntimeException> want, Runnable call) {
        refused(what, want, asCall(call));
    }

    static String outcome(Call call) {
        try {
            return String.valueOf(call.answer());
        } catch (RuntimeException e) {
            return "throws." + e.getClass().getSimpleName();
        }
    }

    static Call asCall(Runnable call) {
        return () -> {
            call.run();
            return 0;
        };
    }

    static void end() {
        if (wrong != 0) {
            System.out.println(wrong + " answers are not as due");
            System.exit(1);
        }
    }
}
