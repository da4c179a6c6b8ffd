/**
 * The section "Edits", with promises 5 to 8: where edits leave spans, virtual texts, cursors, tops, folds and marks, at
 * each place ahead of, at, in and behind them, in an open pane and in a closed one.
 */
final class EditTest {
    private static final int[] PANES = {0, 3};
    private static final int NONE = PaneLayers.NONE;
    /** 22 signs: in rows of 10 the second row begins at the place 10. */
    private static final String LONG = "abcdefghijklmabcdefghi";

    /** An edit of an object. */
    private interface Edit {
        void on(PaneLayers x);
    }

    public static void main(String[] args) {
        signsCome();
        signsGo();
        linesBreak();
        linesJoin();
        spansThatMeet();
        clusters();
        folds();
        foldsThatGo();
        marks();
        wanted();
        Check.end();
    }

    /** Lets something be done in a pane, which is open only for that, but for pane 0. */
    private static void opened(PaneLayers x, int pane, Edit edit) {
        if (pane != 0) {
            x.open(pane);
        }
        edit.on(x);
        if (pane != 0) {
            x.close(pane);
        }
    }

    /** The cursor and a virtual text are at the place 10 of the line 1, and a span goes from there to 13. */
    private static PaneLayers withPlaces(int pane) {
        PaneLayers x = Check.withLines("abc", LONG, "abc");
        opened(x, pane, y -> y.put(pane, 1, 10));
        x.addVirtual(pane, 1, 10, '!');
        x.hide(pane, 1, 10, 13);
        return x;
    }

    /** The top is at the place 10 of the line 1. */
    private static PaneLayers withTop(int pane) {
        PaneLayers x = Check.withLines("abc", LONG, "abc");
        x.shape(pane, 10, 0, 0);
        opened(x, pane, y -> y.scroll(pane, 2));
        return x;
    }

    private static String cursorOf(PaneLayers x, int pane) {
        return x.cursor(pane, 0) + "." + x.cursor(pane, 1);
    }

    /** Where the virtual text of a pane is. */
    private static String virtualOf(PaneLayers x, int pane) {
        for (int row = 0; row < x.rows(pane); row++) {
            for (int cell = 0; cell < x.clusters(pane, row); cell++) {
                if (x.cell(pane, row, cell, 5) == NONE) {
                    return x.lineAt(pane, row) + "." + x.placeAt(pane, row, x.cell(pane, row, cell, 2));
                }
            }
        }
        return "none";
    }

    /** Where the span of a pane is: which places are not shown. */
    private static String spanOf(PaneLayers x, int pane) {
        String told = "none";
        for (int line = 0; line < x.lines(); line++) {
            int shown = 0;
            int from = NONE;
            int many = 0;
            for (int place = 0; place < x.length(line); place++) {
                boolean isShown = x.columnAt(pane, line, place, 0) != x.columnAt(pane, line, place + 1, 0)
                    || x.rowAt(pane, line, place, 0) != x.rowAt(pane, line, place + 1, 0);
                shown += isShown ? 1 : 0;
                from = isShown || from != NONE ? from : place;
                many += isShown ? 0 : 1;
            }
            told = from == NONE ? told : line + "." + from + "-" + (from + many);
        }
        return told;
    }

    /** Where the top is: the first place at which its line can be broken so that it stays there. */
    private static String topOf(Check.Recipe recipe, int pane) {
        PaneLayers x = recipe.make();
        x.shape(pane, 40, 0, 0);
        int line = x.cursor(pane, 5);
        for (int place = 0; place <= x.length(line); place++) {
            PaneLayers y = recipe.make();
            y.shape(pane, 40, 0, 0);
            y.breakLine(line, place);
            if (y.cursor(pane, 5) == line) {
                return line + "." + place;
            }
        }
        return "none";
    }

    /** Where an edit leaves what was at the place 10 of the line 1, and what span it leaves of that from 10 to 13. */
    private static void due(String what, Edit edit, String place, String span) {
        for (int pane : PANES) {
            PaneLayers x = withPlaces(pane);
            edit.on(x);
            Check.due(what + ": the cursor of " + pane, place, cursorOf(x, pane));
            Check.due(what + ": the span of " + pane, span, spanOf(x, pane));
            Check.due(what + ": is there a span", span.equals("none") ? 0 : 1, spans(x, pane));
            Check.due(what + ": the virtual text of " + pane, place, virtualOf(x, pane));
            Check.due(what + ": the top of " + pane, place, topOf(() -> {
                PaneLayers y = withTop(pane);
                edit.on(y);
                return y;
            }, pane));
        }
    }

    /** Takes the spans of a pane away, and tells how many there were. */
    private static int spans(PaneLayers x, int pane) {
        for (int spans = 0; spans < 7; spans++) {
            try {
                x.show(pane, 0);
            } catch (IndexOutOfBoundsException thrown) {
                return spans;
            }
        }
        return 7;
    }

    private static void signsCome() {
        due("nothing", x -> x.lines(), "1.10", "1.10-13");
        due("a sign at the beginning", x -> x.insert(1, 0, 'm'), "1.11", "1.11-14");
        due("a sign ahead", x -> x.insert(1, 9, 'm'), "1.11", "1.11-14");
        due("a sign at the place, where the span begins, too", x -> x.insert(1, 10, 'm'), "1.10", "1.11-14");
        due("a sign behind the place, in the span", x -> x.insert(1, 11, 'm'), "1.10", "1.10-14");
        due("a sign ahead of the last one of the span", x -> x.insert(1, 12, 'm'), "1.10", "1.10-14");
        due("a sign where the span ends", x -> x.insert(1, 13, 'm'), "1.10", "1.10-13");
        due("a sign behind the span", x -> x.insert(1, 14, 'm'), "1.10", "1.10-13");
        due("a sign at the end", x -> x.insert(1, 22, 'm'), "1.10", "1.10-13");
        due("a sign in the line ahead", x -> x.insert(0, 0, 'm'), "1.10", "1.10-13");
        due("a sign in the line behind", x -> x.insert(2, 0, 'm'), "1.10", "1.10-13");
    }

    private static void signsGo() {
        due("all signs ahead but one", x -> x.remove(1, 0, 9), "1.1", "1.1-4");
        due("all signs ahead", x -> x.remove(1, 0, 10), "1.0", "1.0-3");
        due("all signs ahead, and the first one of the span", x -> x.remove(1, 0, 11), "1.0", "1.0-2");
        due("the sign ahead", x -> x.remove(1, 9, 10), "1.9", "1.9-12");
        due("the signs on both sides", x -> x.remove(1, 9, 11), "1.9", "1.9-11");
        due("the sign behind", x -> x.remove(1, 10, 11), "1.10", "1.10-12");
        due("a sign in the span", x -> x.remove(1, 11, 12), "1.10", "1.10-12");
        due("the last sign of the span", x -> x.remove(1, 12, 13), "1.10", "1.10-12");
        due("the last sign of the span and the next one", x -> x.remove(1, 12, 14), "1.10", "1.10-12");
        due("the sign where the span ends", x -> x.remove(1, 13, 14), "1.10", "1.10-13");
        due("all of the span but the last sign", x -> x.remove(1, 10, 12), "1.10", "1.10-11");
        due("all of the span but the first sign", x -> x.remove(1, 11, 13), "1.10", "1.10-11");
        due("the span", x -> x.remove(1, 10, 13), "1.10", "none");
        due("the span and the sign ahead", x -> x.remove(1, 9, 13), "1.9", "none");
        due("the span and the sign behind", x -> x.remove(1, 10, 14), "1.10", "none");
        due("the span and both", x -> x.remove(1, 9, 14), "1.9", "none");
        due("the whole line", x -> x.remove(1, 0, 22), "1.0", "none");
        due("signs behind", x -> x.remove(1, 14, 22), "1.10", "1.10-13");
        due("signs of the line ahead", x -> x.remove(0, 0, 3), "1.10", "1.10-13");
        due("signs of the line behind", x -> x.remove(2, 0, 3), "1.10", "1.10-13");
    }

    private static void linesBreak() {
        due("a break at the beginning", x -> x.breakLine(1, 0), "2.10", "2.10-13");
        due("a break ahead", x -> x.breakLine(1, 9), "2.1", "2.1-4");
        due("a break at the place, where the span begins, too", x -> x.breakLine(1, 10), "1.10", "2.0-3");
        due("a break behind the place, in the span", x -> x.breakLine(1, 11), "1.10", "1.10-11");
        due("a break ahead of the last one of the span", x -> x.breakLine(1, 12), "1.10", "1.10-12");
        due("a break where the span ends", x -> x.breakLine(1, 13), "1.10", "1.10-13");
        due("a break behind the span", x -> x.breakLine(1, 14), "1.10", "1.10-13");
        due("a break at the end", x -> x.breakLine(1, 22), "1.10", "1.10-13");
        due("a break of the line ahead at its beginning", x -> x.breakLine(0, 0), "2.10", "2.10-13");
        due("a break of the line ahead at its end", x -> x.breakLine(0, 3), "2.10", "2.10-13");
        due("a break of the line behind", x -> x.breakLine(2, 0), "1.10", "1.10-13");
        due("a break, and a sign where the rest of the span ends", x -> {
            x.breakLine(1, 11);
            x.insert(1, 11, 'm');
        }, "1.10", "1.10-11");
        due("a break that is undone", x -> {
            x.breakLine(1, 9);
            x.join(1);
        }, "1.10", "1.10-13");
        due("a break in a span that is undone", x -> {
            x.breakLine(1, 12);
            x.join(1);
        }, "1.10", "1.10-12");
    }

    private static void linesJoin() {
        due("a line of 3 signs ahead", x -> x.join(0), "0.13", "0.13-16");
        due("an empty line ahead", x -> {
            x.remove(0, 0, 3);
            x.join(0);
        }, "0.10", "0.10-13");
        due("the line behind", x -> x.join(1), "1.10", "1.10-13");
        due("two lines ahead", x -> {
            x.breakLine(0, 1);
            x.join(0);
        }, "1.10", "1.10-13");
        due("two lines behind", x -> {
            x.breakLine(2, 1);
            x.join(2);
        }, "1.10", "1.10-13");
        for (int pane : PANES) {
            PaneLayers x = Check.withLines("abc", "def");
            opened(x, pane, y -> y.put(pane, 1, 0));
            x.hide(pane, 1, 0, 1);
            x.addVirtual(pane, 1, 0, '!');
            x.join(0);
            Check.due("the place 0 of the second line: the cursor", "0.3", cursorOf(x, pane));
            Check.due("the place 0 of the second line: the virtual text", "0.3", virtualOf(x, pane));
            Check.due("the place 0 of the second line: the span", "abc!ef", Check.rows(x, pane));
        }
    }

    /** Spans know nothing of one another. */
    private static void spansThatMeet() {
        PaneLayers x = Check.withLines("abcdef");
        x.hide(0, 0, 1, 3);
        x.hide(0, 0, 3, 5);
        x.insert(0, 3, 'm');
        Check.due("a sign between two spans is shown", "amf", Check.rows(x, 0));
        x.breakLine(0, 3);
        Check.due("a break between them", "a|mf", Check.rows(x, 0));
        x.join(0);
        x.remove(0, 2, 5);
        Check.due("signs of both go", "af", Check.rows(x, 0));
        Check.due("both are left", 2, spans(x, 0));
        PaneLayers y = Check.withLines("abcdef");
        y.hide(0, 0, 1, 2);
        y.hide(0, 0, 1, 4);
        y.hide(0, 0, 1, 2);
        y.remove(0, 1, 2);
        Check.due("those that are empty go", "aef", Check.rows(y, 0));
        Check.due("the other one has the number 0", 0, y.show(0, 0));
        Check.due("and is shown", "acdef", Check.rows(y, 0));
    }

    private static void clusters() {
        PaneLayers x = Check.withLines("a~~b");
        Check.due("clusters", "3 1", Check.cells(x, 0, 0, 1));
        x.breakLine(0, 1);
        Check.due("a cluster is broken", "1", Check.cells(x, 0, 0, 1));
        Check.due("~ at the beginning of a line begins a cluster", "2 1", Check.cells(x, 0, 1, 1));
        Check.due("its first sign", "126 98", Check.cells(x, 0, 1, 0));
        x.join(0);
        Check.due("lines with it become one", "3 1", Check.cells(x, 0, 0, 1));
        x.remove(0, 0, 1);
        Check.due("the first sign goes", "2 1", Check.cells(x, 0, 0, 1));
        x.insert(0, 1, 'c');
        Check.due("a sign in a cluster", "1 2 1", Check.cells(x, 0, 0, 1));
        x.insert(0, 3, '~');
        Check.due("~ at the end of a cluster", "1 3 1", Check.cells(x, 0, 0, 1));
        x.remove(0, 1, 2);
        Check.due("two clusters become one", "3 1", Check.cells(x, 0, 0, 1));
        x.insert(0, 0, 9);
        Check.due("a tab has them, too", "4 1", Check.cells(x, 0, 0, 1));
        Check.due("and stays a tab", "4 1", Check.cells(x, 0, 0, 3));
    }

    /** Six lines, of which the lines 2 and 3 are in a fold that begins with the line 1. */
    private static void fold(String what, Edit edit, String rows, String shown) {
        for (int pane : PANES) {
            PaneLayers x = Check.withLines("aa", "bb", "cc", "dd", "ee", "ff");
            x.addFold(pane, 1, 3);
            x.setClosed(pane, 0, true);
            edit.on(x);
            Check.due(what + ": rows", rows, Check.rows(x, pane));
            StringBuilder told = new StringBuilder();
            for (int line = 0; line < x.lines(); line++) {
                told.append(x.rowsOf(pane, line));
            }
            Check.due(what + ": lines that are shown", shown, told.toString());
        }
    }

    private static void folds() {
        fold("nothing", x -> x.lines(), "aa|bb...|ee|ff", "110011");
        fold("the line ahead is broken", x -> x.breakLine(0, 2), "aa||bb...|ee|ff", "1110011");
        fold("the first line is broken", x -> x.breakLine(1, 1), "aa|b...|ee|ff", "1100011");
        fold("the first line is broken at its beginning", x -> x.breakLine(1, 0), "aa|...|ee|ff", "1100011");
        fold("the first line is broken at its end", x -> x.breakLine(1, 2), "aa|bb...|ee|ff", "1100011");
        fold("a line inside is broken", x -> x.breakLine(2, 1), "aa|bb...|ee|ff", "1100011");
        fold("the last line is broken", x -> x.breakLine(3, 1), "aa|bb...|ee|ff", "1100011");
        fold("the last line is broken at its beginning", x -> x.breakLine(3, 0), "aa|bb...|ee|ff", "1100011");
        fold("the last line is broken at its end", x -> x.breakLine(3, 2), "aa|bb...|ee|ff", "1100011");
        fold("the line behind is broken", x -> x.breakLine(4, 0), "aa|bb...||ee|ff", "1100111");
        fold("two lines ahead", x -> {
            x.breakLine(0, 0);
            x.join(0);
        }, "aa|bb...|ee|ff", "110011");
        fold("the line ahead and the first one", x -> x.join(0), "aabb...|ee|ff", "10011");
        fold("the first line and one inside", x -> x.join(1), "aa|bbcc...|ee|ff", "11011");
        fold("a line inside and the last one", x -> x.join(2), "aa|bb...|ee|ff", "11011");
        fold("the last line and the one behind", x -> x.join(3), "aa|bb...|ff", "11001");
        fold("two lines behind", x -> x.join(4), "aa|bb...|eeff", "11001");
    }

    private static void foldsThatGo() {
        fold("the lines of a fold become one", x -> {
            x.join(1);
            x.join(1);
        }, "aa|bbccdd|ee|ff", "1111");
        fold("the last two of its lines", x -> {
            x.join(2);
            x.join(1);
        }, "aa|bbccdd|ee|ff", "1111");
        fold("a fold of two lines stays, when the lines round it come in", x -> {
            x.join(1);
            x.join(2);
            x.join(0);
        }, "aabbcc...|ff", "101");
        for (int pane : PANES) {
            PaneLayers x = Check.withLines("aa", "bb", "cc", "dd");
            x.addFold(pane, 0, 1);
            x.addFold(pane, 0, 2);
            x.addFold(pane, 0, 1);
            x.addFold(pane, 2, 3);
            x.setClosed(pane, 3, true);
            x.join(0);
            Check.due("two of four folds are gone", 3, x.addFold(pane, 0, 1));
            Check.due("the numbers of the others", true, x.setClosed(pane, 1, true));
            Check.due("rows", "aabb|cc...", Check.rows(x, pane));
            Check.due("the first one is open", false, x.setClosed(pane, 0, true));
            Check.due("its lines", "aabb...", Check.rows(x, pane));
        }
    }

    private static void mark(String what, Edit edit, String due) {
        PaneLayers x = Check.withLines("ab", "cd", "ef");
        x.setMark(1, true);
        edit.on(x);
        for (int pane : PANES) {
            StringBuilder told = new StringBuilder();
            for (int row = 0; row < x.rows(pane); row++) {
                told.append(x.marksAt(pane, row));
            }
            Check.due(what + ": marks", due, told.toString());
        }
    }

    private static void marks() {
        mark("nothing", x -> x.lines(), "010");
        mark("broken at the beginning", x -> x.breakLine(1, 0), "0100");
        mark("broken inside", x -> x.breakLine(1, 1), "0100");
        mark("broken at the end", x -> x.breakLine(1, 2), "0100");
        mark("the line ahead is broken", x -> x.breakLine(0, 2), "0010");
        mark("the line behind is broken", x -> x.breakLine(2, 0), "0100");
        mark("the line ahead and it", x -> x.join(0), "10");
        mark("it and the line behind", x -> x.join(1), "01");
        mark("both were marked", x -> {
            x.setMark(2, true);
            x.join(1);
        }, "01");
        mark("one mark is taken away then", x -> {
            x.setMark(2, true);
            x.join(1);
            Check.due("it was marked", true, x.setMark(1, false));
        }, "00");
        mark("its signs come and go", x -> {
            x.remove(1, 0, 2);
            x.insert(1, 0, 'a');
        }, "010");
        mark("two others become one", x -> {
            x.setMark(1, false);
            x.join(1);
            x.breakLine(1, 1);
        }, "000");
    }

    /** The wanted column is no place: edits leave it. */
    private static void wanted() {
        PaneLayers x = Check.withLines("abcdef", "ab");
        x.put(0, 0, 4);
        x.insert(0, 0, 'A');
        x.remove(0, 1, 3);
        x.breakLine(0, 1);
        x.join(0);
        Check.due("the wanted column", 4, x.cursor(0, 4));
        Check.due("the column", 4, x.cursor(0, 3));
        Check.due("the place", 3, x.cursor(0, 1));
    }
}
