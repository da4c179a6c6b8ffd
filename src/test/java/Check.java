/** Compares answers with those that are due, and counts the wrong ones. */
final class Check {
    /** A call of which an answer or an exception is due. */
    interface Call {
        long answer();
    }

    /** Makes an object that is always the same. */
    interface Recipe {
        PaneLayers make();
    }

    /** A call on an object. */
    interface Use {
        long on(PaneLayers x);
    }

    private static int wrong;
    private static int done;

    private Check() {
    }

    static void due(String what, long want, long got) {
        done++;
        if (want != got) {
            wrong++;
            System.out.println(what + " answered " + got + ", due is " + want);
        }
    }

    static void due(String what, boolean want, boolean got) {
        due(what, want ? 1 : 0, got ? 1 : 0);
    }

    static void due(String what, String want, String got) {
        done++;
        if (!want.equals(got)) {
            wrong++;
            System.out.println(what + " answered\n  " + got + "\ndue is\n  " + want);
        }
    }

    static void range(String what, Call call) {
        due(what, IndexOutOfBoundsException.class, call);
    }

    static void argument(String what, Call call) {
        due(what, IllegalArgumentException.class, call);
    }

    static void state(String what, Call call) {
        due(what, IllegalStateException.class, call);
    }

    /** The call has to throw just this exception, and to leave all as it is in an object that never got the call. */
    static void refused(String what, Class<?> want, Recipe recipe, Use use) {
        PaneLayers x = recipe.make();
        due(what, want, () -> use.on(x));
        due(what + " changes nothing", Whole.of(recipe.make()), Whole.of(x));
    }

    /** The call has to be taken. */
    static void taken(String what, Recipe recipe, Use use) {
        done++;
        try {
            use.on(recipe.make());
        } catch (RuntimeException thrown) {
            wrong++;
            System.out.println(what + " threw " + thrown);
        }
    }

    /** Puts signs in at the end of a line. */
    static void write(PaneLayers x, int line, String signs) {
        for (int i = 0; i < signs.length(); i++) {
            x.insert(line, x.length(line), signs.charAt(i));
        }
    }

    /** An object with these lines. */
    static PaneLayers withLines(String... lines) {
        PaneLayers x = new PaneLayers();
        for (int i = 0; i < lines.length; i++) {
            if (i > 0) {
                x.breakLine(i - 1, x.length(i - 1));
            }
            write(x, i, lines[i]);
        }
        return x;
    }

    /** The signs of all lines, with a | between two. */
    static String text(PaneLayers x) {
        StringBuilder told = new StringBuilder();
        for (int line = 0; line < x.lines(); line++) {
            told.append(line > 0 ? "|" : "");
            for (int place = 0; place < x.length(line); place++) {
                told.append((char) x.sign(line, place));
            }
        }
        return told.toString();
    }

    /** The first signs of the clusters of all rows of a pane as they stand on the screen, with a | between two rows. */
    static String rows(PaneLayers x, int pane) {
        StringBuilder told = new StringBuilder();
        for (int row = 0; row < x.rows(pane); row++) {
            told.append(row > 0 ? "|" : "");
            for (int cell = 0; cell < x.clusters(pane, row); cell++) {
                told.append((char) x.cell(pane, row, cell, 0));
            }
        }
        return told.toString();
    }

    /** What is told of the clusters of a row, from the left of the screen on. */
    static String cells(PaneLayers x, int pane, int row, int what) {
        StringBuilder told = new StringBuilder();
        for (int cell = 0; cell < x.clusters(pane, row); cell++) {
            told.append(cell > 0 ? " " : "").append(x.cell(pane, row, cell, what));
        }
        return told.toString();
    }

    /** The line, place, row, column, wanted column of the cursor and the first row that is shown. */
    static String cursor(PaneLayers x, int pane) {
        StringBuilder told = new StringBuilder();
        for (int what = 0; what < 6; what++) {
            told.append(what > 0 ? " " : "").append(x.cursor(pane, what));
        }
        return told.toString();
    }

    /** The levels of the clusters of a line alone, in the order of the text, have to be these. */
    static void levels(String line, String due) {
        PaneLayers x = withLines(line);
        x.shape(0, 40, 0, 0);
        int[] levels = new int[line.length()];
        for (int cell = 0; cell < x.clusters(0, 0); cell++) {
            levels[x.cell(0, 0, cell, 5)] = x.cell(0, 0, cell, 4);
        }
        StringBuilder told = new StringBuilder();
        for (int level : levels) {
            told.append(level);
        }
        due("levels of " + line, due, told.toString());
    }

    /** Signs as addVirtual takes them. */
    static long virtual(String signs) {
        long told = 0;
        for (int i = 0; i < signs.length(); i++) {
            told |= (long) signs.charAt(i) << 8 * i;
        }
        return told;
    }

    /** The exception has to be of just this class, and thrown by the program, not by the machine or its library. */
    private static void due(String what, Class<?> want, Call call) {
        done++;
        try {
            long got = call.answer();
            wrong++;
            System.out.println(what + " answered " + got + ", due is " + want.getSimpleName());
        } catch (RuntimeException thrown) {
            StackTraceElement[] calls = thrown.getStackTrace();
            boolean isOwn = calls.length > 0 && calls[0].getClassName().startsWith("PaneLayers");
            if (thrown.getClass() != want || !isOwn) {
                wrong++;
                System.out.println(what + (isOwn ? " threw " : ": the machine threw ") + thrown + ", due is "
                    + want.getSimpleName());
            }
        }
    }

    /** Ends the test: with the exit code 1 if an answer was wrong. */
    static void end() {
        System.out.println(done + " answers, " + wrong + " wrong");
        if (wrong > 0 || done == 0) {
            System.exit(1);
        }
    }
}
