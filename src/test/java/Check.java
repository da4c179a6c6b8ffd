/** Compares answers with those that are due, and counts the wrong ones. */
final class Check {
    /** A call of which an answer or an exception is due. */
    interface Call {
        long answer();
    }

    private static int wrong;
    private static int done;

    private Check() {
    }

    static void due(String what, long want, long got) {
        done++;
        if (want != got) {
            wrong++;
            System.out.println(what + " answered " + got + ", due is " + want);
        }
    }

    static void due(String what, boolean want, boolean got) {
        due(what, want ? 1 : 0, got ? 1 : 0);
    }

    static void due(String what, String want, String got) {
        done++;
        if (!want.equals(got)) {
            wrong++;
            System.out.println(what + " answered\n  " + got + "\ndue is\n  " + want);
        }
    }

    static void range(String what, Call call) {
        due(what, IndexOutOfBoundsException.class, call);
    }

    static void argument(String what, Call call) {
        due(what, IllegalArgumentException.class, call);
    }

    static void state(String what, Call call) {
        due(what, IllegalStateException.class, call);
    }

    /** The exception has to be of just this class, and thrown by the program, not by the machine in an array. */
    private static void due(String what, Class<?> want, Call call) {
        done++;
        try {
            long got = call.answer();
            wrong++;
            System.out.println(what + " answered " + got + ", due is " + want.getSimpleName());
        } catch (RuntimeException thrown) {
            if (thrown.getClass() != want) {
                wrong++;
                System.out.println(what + " threw " + thrown + ", due is " + want.getSimpleName());
            }
        }
    }

    /** Ends the test: with the exit code 1 if an answer was wrong. */
    static void end() {
        System.out.println(done + " answers, " + wrong + " wrong");
        if (wrong > 0 || done == 0) {
            System.exit(1);
        }
    }
}
