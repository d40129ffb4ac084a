/** Compares answers with those due, counts what is wrong, and ends a test. */
final class Check {
    private static int wrong = 0;
    private static int right = 0;

    private Check() {
    }

    /** A call whose exception is looked at. */
    interface Call {
        void make();
    }

    static void due(String what, long got, long want) {
        if (got == want) {
            right++;
        } else {
            wrong++;
            System.out.println(what + " answered " + got + ", due is " + want);
        }
    }

    static void due(String what, boolean got, boolean want) {
        due(what, got ? 1 : 0, want ? 1 : 0);
    }

    static void illegalArgument(String what, Call call) {
        thrown(what, call, IllegalArgumentException.class);
    }

    static void illegalState(String what, Call call) {
        thrown(what, call, IllegalStateException.class);
    }

    /** A call that must not throw, whatever it answers. */
    static void taken(String what, Call call) {
        thrown(what, call, null);
    }

    private static void thrown(String what, Call call, Class<?> want) {
        Class<?> got = null;
        try {
            call.make();
        } catch (RuntimeException e) {
            got = e.getClass();
        }
        if (got == want) {
            right++;
        } else {
            wrong++;
            System.out.println(what + " threw " + got + ", due is " + want);
        }
    }

    /** Ends the test: with exit code 1 if an answer was wrong, or if there was none at all. */
    static void end() {
        System.out.println(right + " answers right, " + wrong + " wrong");
        if (wrong > 0 || right == 0) {
            System.exit(1);
        }
    }
}
