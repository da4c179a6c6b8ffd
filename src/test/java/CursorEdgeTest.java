/**
 * The section "Cursors and tops", with promises 31 to 37: margins, moves that go nowhere, the log, scrolling and typing,
 * at their borders.
 */
final class CursorEdgeTest {
    private static final int LEFT = PaneLayers.LEFT;
    private static final int RIGHT = PaneLayers.RIGHT;
    private static final int UP = PaneLayers.UP;
    private static final int DOWN = PaneLayers.DOWN;
    private static final int HOME = PaneLayers.HOME;
    private static final int END = PaneLayers.END;
    private static final int PAGE_UP = PaneLayers.PAGE_UP;
    private static final int PAGE_DOWN = PaneLayers.PAGE_DOWN;
    private static final int NONE = PaneLayers.NONE;
    /** The greatest margin that a height allows, from the height 0 on. */
    private static final int[] MARGINS = {0, 0, 0, 1, 1, 2, 2, 3, 3, 3, 3, 3, 3, 3, 3, 3, 3};

    public static void main(String[] args) {
        margins();
        putFollows();
        goingNowhere();
        topsThatStay();
        topsWithoutText();
        placesOfRows();
        leftAndRight();
        leftAndRightAtHiddenOnes();
        leftAndRightRoundFolds();
        upAndDown();
        pages();
        homeAndEnd();
        homeAndEndAtVirtualOnes();
        wantedColumns();
        invisibleCursors();
        latestMoves();
        playedMoves();
        scrolls();
        scrollsWithMargins();
        scrolledTops();
        typing();
        typingInFolds();
        boxes();
        boxesInOneLine();
        fullBoxes();
        Check.end();
    }

    /** An object with lines of one sign, in which the pane 0 is locked to a height. */
    private static PaneLayers withMany(int lines, int height, int margin) {
        PaneLayers x = new PaneLayers();
        for (int line = 1; line < lines; line++) {
            x.breakLine(0, 0);
        }
        for (int line = 0; line < lines; line++) {
            x.insert(line, 0, 'a');
        }
        x.share(0, 1, 1, height);
        x.open(1);
        x.shape(0, 20, 0, margin);
        return x;
    }

    private static void due(PaneLayers x, String what, String due) {
        Check.due(what, due, Check.cursor(x, 0));
    }

    private static void move(PaneLayers x, int move, boolean isAnother, String due) {
        Check.due("move " + move + " to " + due, isAnother, x.move(0, move));
        due(x, "the cursor behind the move " + move, due);
    }

    private static int topAfter(PaneLayers x, int line) {
        x.put(0, line, 0);
        return x.cursor(0, 5);
    }

    private static void margins() {
        for (int height = 1; height <= 16; height++) {
            for (int margin = 0; margin <= 3; margin++) {
                int its = Math.min(margin, MARGINS[height]);
                String what = "height " + height + ", margin " + margin + ": ";
                PaneLayers x = withMany(40, height, margin);
                Check.due(what + "the last row above the margin", 0, topAfter(x, height - 1 - its));
                Check.due(what + "the first row of the margin", 1, topAfter(x, height - its));
                Check.due(what + "far below", 35 + its - height + 1, topAfter(x, 35));
                Check.due(what + "far above", 10 - its, topAfter(x, 10));
                Check.due(what + "the first row behind the margin", 10 - its, topAfter(x, 10));
                Check.due(what + "the last row of the margin", 9 - its, topAfter(x, 9));
                Check.due(what + "the first row of all", 0, topAfter(x, 0));
                Check.due(what + "the last row of all", 39 + its - height + 1, topAfter(x, 39));
            }
        }
        PaneLayers x = withMany(40, 10, 3);
        Check.due("the row 2", 0, topAfter(x, 2));
        x.scroll(0, 4);
        Check.due("a row less than the margin behind the first one", 0, topAfter(x, 2));
    }

    private static void putFollows() {
        PaneLayers x = withMany(20, 8, 0);
        Check.due("put answers the row", 7, x.put(0, 7, 1));
        due(x, "the last place", "7 1 7 1 1 0");
        for (int i = 0; i < 6; i++) {
            x.breakLine(3, 1);
        }
        due(x, "below the rows that are shown", "13 1 13 1 1 0");
        Check.due("put to where it is", 13, x.put(0, 13, 1));
        due(x, "the top follows", "13 1 13 1 1 6");
        PaneLayers y = Check.withLines("abcdefghijklm", "");
        y.shape(0, 10, 2, 0);
        Check.due("put at the beginning", 0, y.put(0, 0, 0));
        Check.due("put at the last place of a row", 0, y.put(0, 0, 9));
        Check.due("put at the first place of the next one", 1, y.put(0, 0, 10));
        due(y, "the wanted column is its column", "0 10 1 2 2 0");
        Check.due("put at the end", 1, y.put(0, 0, 13));
        Check.due("put in an empty line", 2, y.put(0, 1, 0));
        due(y, "the wanted column is its column", "1 0 2 0 0 0");
    }

    /** A cursor that is not another one lets the top be, also when it is out of sight. */
    private static void goingNowhere() {
        PaneLayers x = withMany(20, 8, 0);
        x.put(0, 7, 0);
        for (int i = 0; i < 6; i++) {
            x.breakLine(3, 1);
        }
        move(x, HOME, false, "13 0 13 0 0 0");
        Check.due("played", 0, x.play(0, 0));
        due(x, "as it was", "13 0 13 0 0 0");
        x.insert(5, 0, 'a');
        x.remove(13, 0, 1);
        due(x, "edits are no moves", "13 0 13 0 0 0");
        x.insert(13, 0, 'a');
        move(x, END, true, "13 1 13 1 1 6");
        PaneLayers y = withMany(20, 8, 0);
        y.put(0, 7, 0);
        for (int i = 0; i < 6; i++) {
            y.breakLine(3, 1);
        }
        y.move(1, END);
        Check.due("a move that is played brings the top there", 1, y.play(1, 0));
        due(y, "top", "13 1 13 1 1 6");
    }

    /** A top in the middle of a row stays there, as long as the cursor is between the margins. */
    private static void topsThatStay() {
        for (int place : new int[] {11, 20, 29, 30, 39}) {
            PaneLayers x = Check.withLines("abcdefghijabcdefghijabcdefghijabcdefghijabcdefghij");
            x.shape(0, 10, 0, 0);
            x.share(0, 1, 1, 3);
            x.open(1);
            x.scroll(0, 1);
            x.insert(0, 0, 'a');
            x.put(0, 0, place);
            Check.due("the first row that is shown", 1, x.cursor(0, 5));
            x.breakLine(0, 10);
            Check.due("the top was at the place 11, so it is in the new line", 1, x.cursor(0, 5));
        }
        PaneLayers x = Check.withLines("abcdefghijabcdefghijabcdefghijabcdefghijabcdefghij");
        x.shape(0, 10, 0, 0);
        x.share(0, 1, 1, 3);
        x.open(1);
        x.scroll(0, 1);
        x.insert(0, 0, 'a');
        x.put(0, 0, 40);
        x.put(0, 0, 10);
        Check.due("the first row that is shown", 1, x.cursor(0, 5));
        x.breakLine(0, 10);
        Check.due("the top was at the place 10, so it is at the end of the first line", 0, x.cursor(0, 5));
    }

    /** A top goes to the place of a row, and is shown where that place is. */
    private static void topsWithoutText() {
        PaneLayers x = Check.withLines("a", "bc", "d");
        x.shape(0, 10, 0, 0);
        x.share(0, 1, 1, 1);
        x.open(1);
        for (int i = 0; i < 3; i++) {
            x.addVirtual(0, 1, 2, Check.virtual("kkkkkkkk"));
        }
        Check.due("rows", "a|bckkkkkkkk|kkkkkkkkkk|kkkkkk|d", Check.rows(x, 0));
        Check.due("a row in the middle without text: the place 0", 1, x.scroll(0, 2));
        Check.due("the last row without text: the end of the line", 1, x.scroll(0, 2));
        x.breakLine(1, 1);
        Check.due("the end went to the new line", 2, x.cursor(0, 5));
        x.join(1);
        x.scroll(0, -1);
        x.scroll(0, 2);
        x.breakLine(1, 1);
        Check.due("the place 0 stays", 1, x.cursor(0, 5));
        PaneLayers y = Check.withLines("ab", "c");
        y.shape(0, 10, 0, 0);
        y.hide(0, 0, 0, 2);
        for (int i = 0; i < 3; i++) {
            y.addVirtual(0, 0, 1, Check.virtual("kkkkkkkk"));
        }
        Check.due("rows", "kkkkkkkkkk|kkkkkkkkkk|kkkk|c", Check.rows(y, 0));
        Check.due("a line without text is at its first row", 0, y.scroll(0, 2));
        Check.due("the row behind it", 3, y.scroll(0, 3));
    }

    private static void placesOfRows() {
        PaneLayers x = Check.withLines("abc");
        x.hide(0, 0, 0, 3);
        x.put(0, 0, 1);
        move(x, HOME, true, "0 3 0 0 0 0");
        x.put(0, 0, 1);
        move(x, END, true, "0 3 0 0 0 0");
        x.addVirtual(0, 0, 1, Check.virtual("kk"));
        x.put(0, 0, 1);
        move(x, HOME, true, "0 3 0 0 0 0");
        x.shape(0, 10, 0, 0);
        x.addVirtual(0, 0, 1, Check.virtual("kkkkkkkk"));
        x.addVirtual(0, 0, 1, Check.virtual("kk"));
        Check.due("rows", "kkkkkkkkkk|kk", Check.rows(x, 0));
        move(x, HOME, true, "0 0 0 0 0 0");
        move(x, HOME, false, "0 0 0 0 0 0");
        move(x, END, false, "0 0 0 0 0 0");
        x.show(0, 0);
        Check.due("rows", "akkkkkkkkk|kkkbc", Check.rows(x, 0));
        move(x, END, false, "0 0 0 0 0 0");
        x.put(0, 0, 2);
        move(x, HOME, true, "0 1 1 3 3 0");
        move(x, END, true, "0 3 1 5 5 0");
        // Up from the row 0 and the column 5 is a virtual sign, whose text is at the place 1, which is in the row 1.
        move(x, UP, true, "0 1 1 3 5 0");
    }

    private static void leftAndRight() {
        PaneLayers x = Check.withLines("ab", "", "~~c", "no");
        due(x, "at first", "0 0 0 0 0 0");
        move(x, LEFT, false, "0 0 0 0 0 0");
        move(x, RIGHT, true, "0 1 0 1 1 0");
        move(x, RIGHT, true, "0 2 0 2 2 0");
        move(x, RIGHT, true, "1 0 1 0 0 0");
        move(x, RIGHT, true, "2 0 2 0 0 0");
        move(x, RIGHT, true, "2 2 2 1 1 0");
        move(x, RIGHT, true, "2 3 2 2 2 0");
        move(x, RIGHT, true, "3 0 3 2 2 0");
        move(x, RIGHT, true, "3 1 3 1 1 0");
        move(x, RIGHT, true, "3 2 3 0 0 0");
        move(x, RIGHT, false, "3 2 3 0 0 0");
        move(x, LEFT, true, "3 1 3 1 1 0");
        move(x, LEFT, true, "3 0 3 2 2 0");
        move(x, LEFT, true, "2 3 2 2 2 0");
        move(x, LEFT, true, "2 2 2 1 1 0");
        move(x, LEFT, true, "2 0 2 0 0 0");
        move(x, LEFT, true, "1 0 1 0 0 0");
        move(x, LEFT, true, "0 2 0 2 2 0");
        x.put(0, 2, 1);
        move(x, LEFT, true, "2 0 2 0 0 0");
        x.put(0, 2, 1);
        move(x, RIGHT, true, "2 2 2 1 1 0");
    }

    private static void leftAndRightAtHiddenOnes() {
        PaneLayers x = Check.withLines("k", "abcdef", "l");
        x.hide(0, 1, 0, 2);
        x.hide(0, 1, 4, 6);
        int[] left = {1, 1, 1, 2, 3, 3, 3};
        int[] right = {2, 2, 3, 6, 6, 6, 0};
        for (int place = 0; place <= 6; place++) {
            x.put(0, 1, place);
            Check.due("left of " + place, true, x.move(0, LEFT));
            Check.due("line", place < 3 ? 0 : 1, x.cursor(0, 0));
            Check.due("place", left[place], x.cursor(0, 1));
            x.put(0, 1, place);
            Check.due("right of " + place, true, x.move(0, RIGHT));
            Check.due("line", place < 6 ? 1 : 2, x.cursor(0, 0));
            Check.due("place", right[place], x.cursor(0, 1));
        }
        x.put(0, 0, 1);
        move(x, RIGHT, true, "1 2 1 0 0 0");
        x.hide(0, 1, 0, 6);
        x.put(0, 0, 1);
        move(x, RIGHT, true, "1 6 1 0 0 0");
        move(x, LEFT, true, "0 1 0 1 1 0");
        x.put(0, 2, 0);
        move(x, LEFT, true, "1 6 1 0 0 0");
        x.put(0, 1, 3);
        move(x, RIGHT, true, "1 6 1 0 0 0");
        x.put(0, 1, 3);
        move(x, LEFT, true, "0 1 0 1 1 0");
        PaneLayers y = Check.withLines("ab");
        y.hide(0, 0, 0, 1);
        y.put(0, 0, 1);
        move(y, LEFT, false, "0 1 0 0 0 0");
        y.addVirtual(0, 0, 0, 'k');
        move(y, LEFT, false, "0 1 0 1 1 0");
        y.hide(0, 0, 1, 2);
        y.put(0, 0, 2);
        move(y, LEFT, false, "0 2 0 0 0 0");
        move(y, RIGHT, false, "0 2 0 0 0 0");
    }

    private static void leftAndRightRoundFolds() {
        PaneLayers x = Check.withLines("ab", "c", "d", "ef", "g");
        x.addFold(0, 1, 2);
        x.setClosed(0, 0, true);
        x.put(0, 1, 1);
        move(x, RIGHT, true, "3 0 2 0 0 0");
        move(x, LEFT, true, "1 1 1 1 1 0");
        x.addFold(0, 3, 4);
        x.setClosed(0, 1, true);
        x.put(0, 3, 2);
        move(x, RIGHT, false, "3 2 2 2 2 0");
        move(x, DOWN, false, "3 2 2 2 2 0");
        x.addFold(0, 0, 1);
        x.setClosed(0, 2, true);
        x.put(0, 3, 0);
        move(x, LEFT, true, "0 2 0 2 2 0");
        move(x, RIGHT, true, "3 0 1 0 0 0");
    }

    private static void upAndDown() {
        PaneLayers x = Check.withLines("abcdefghijklm", "AB", "", "abcdef");
        x.shape(0, 10, 2, 0);
        x.put(0, 0, 7);
        move(x, UP, false, "0 7 0 7 7 0");
        move(x, DOWN, true, "0 12 1 4 7 0");
        move(x, DOWN, true, "1 1 2 2 7 0");
        move(x, DOWN, true, "2 0 3 0 7 0");
        move(x, DOWN, true, "3 5 4 5 7 0");
        move(x, DOWN, false, "3 5 4 5 7 0");
        move(x, UP, true, "2 0 3 0 7 0");
        move(x, UP, true, "1 1 2 2 7 0");
        move(x, UP, true, "0 12 1 4 7 0");
        move(x, UP, true, "0 7 0 7 7 0");
        x.put(0, 3, 1);
        move(x, UP, true, "2 0 3 0 1 0");
        move(x, UP, true, "1 0 2 0 1 0");
        move(x, UP, true, "0 10 1 2 1 0");
        move(x, UP, true, "0 1 0 1 1 0");
        PaneLayers y = Check.withLines("abcdefghijk");
        y.shape(0, 10, 0, 0);
        y.put(0, 0, 11);
        move(y, UP, true, "0 1 0 1 1 0");
        PaneLayers z = Check.withLines("n".repeat(10), "ab");
        z.shape(0, 10, 0, 0);
        z.put(0, 0, 0);
        move(z, DOWN, true, "1 1 1 1 10 0");
        move(z, UP, true, "0 0 0 10 10 0");
        PaneLayers w = Check.withLines("a".repeat(40), "n".repeat(40));
        w.shape(0, 40, 0, 0);
        w.put(0, 1, 0);
        move(w, UP, true, "0 39 0 39 40 0");
    }

    private static void pages() {
        for (int height : new int[] {1, 2, 5, 16}) {
            PaneLayers x = withMany(40, height, 0);
            x.put(0, 3, 0);
            move(x, PAGE_DOWN, true, line(3 + height, 4));
            x.put(0, 39 - height, 0);
            move(x, PAGE_DOWN, true, line(39, 40 - height));
            move(x, PAGE_DOWN, false, line(39, 40 - height));
            x.put(0, 39 - height + 1, 0);
            Check.due("less than a page", height > 1, x.move(0, PAGE_DOWN));
            due(x, "to the last row", line(39, 40 - height));
            move(x, PAGE_UP, true, line(39 - height, 39 - height));
            x.put(0, height, 0);
            move(x, PAGE_UP, true, line(0, 0));
            move(x, PAGE_UP, false, line(0, 0));
            x.put(0, height - 1, 0);
            Check.due("less than a page", height > 1, x.move(0, PAGE_UP));
            due(x, "to the first row", line(0, 0));
        }
        PaneLayers x = Check.withLines("abc");
        x.put(0, 0, 2);
        move(x, PAGE_DOWN, false, "0 2 0 2 2 0");
        move(x, PAGE_UP, false, "0 2 0 2 2 0");
    }

    /** A cursor at the beginning of a line of its own row, and the first row that is shown. */
    private static String line(int line, int first) {
        return line + " 0 " + line + " 0 0 " + first;
    }

    private static void homeAndEnd() {
        PaneLayers x = Check.withLines("abcdefghij  kl", "");
        x.shape(0, 10, 2, 0);
        x.put(0, 0, 5);
        move(x, END, true, "0 11 0 10 10 0");
        move(x, END, false, "0 11 0 10 10 0");
        move(x, HOME, true, "0 0 0 0 0 0");
        move(x, HOME, false, "0 0 0 0 0 0");
        x.put(0, 0, 13);
        move(x, HOME, true, "0 12 1 2 2 0");
        move(x, END, true, "0 14 1 4 4 0");
        move(x, END, false, "0 14 1 4 4 0");
        x.put(0, 1, 0);
        move(x, HOME, false, "1 0 2 0 0 0");
        move(x, END, false, "1 0 2 0 0 0");
        PaneLayers y = Check.withLines("nopqrstuvwxyz");
        y.shape(0, 10, 0, 0);
        y.put(0, 0, 4);
        move(y, HOME, true, "0 0 0 10 10 0");
        move(y, END, true, "0 9 0 1 1 0");
        y.put(0, 0, 11);
        move(y, HOME, true, "0 10 1 3 3 0");
        move(y, END, true, "0 13 1 0 0 0");
        PaneLayers z = Check.withLines("abc~~");
        z.put(0, 0, 4);
        move(z, END, true, "0 5 0 3 3 0");
        z.put(0, 0, 2);
        move(z, END, true, "0 5 0 3 3 0");
        z.hide(0, 0, 0, 1);
        move(z, HOME, true, "0 1 0 0 0 0");
    }

    private static void homeAndEndAtVirtualOnes() {
        PaneLayers x = Check.withLines("abcdefghijk");
        x.shape(0, 10, 0, 0);
        x.addVirtual(0, 0, 9, 'm');
        Check.due("rows", "abcdefghim|jk", Check.rows(x, 0));
        x.put(0, 0, 3);
        move(x, END, true, "0 8 0 8 8 0");
        x.put(0, 0, 10);
        move(x, HOME, true, "0 9 1 0 0 0");
        x.addVirtual(0, 0, 0, 'l');
        Check.due("rows", "labcdefghi|mjk", Check.rows(x, 0));
        move(x, HOME, false, "0 9 1 1 1 0");
        x.put(0, 0, 3);
        move(x, HOME, true, "0 0 0 1 1 0");
        x.addVirtual(0, 0, 1, Check.virtual("kkkkkkkk"));
        Check.due("rows", "lakkkkkkkk|bcdefghimj|k", Check.rows(x, 0));
        move(x, END, false, "0 0 0 1 1 0");
        move(x, RIGHT, true, "0 1 1 0 0 0");
        move(x, END, true, "0 9 1 9 9 0");
    }

    private static void wantedColumns() {
        PaneLayers x = Check.withLines("abcdef", "ab", "abcdef");
        x.put(0, 0, 5);
        move(x, DOWN, true, "1 1 1 1 5 0");
        move(x, LEFT, true, "1 0 1 0 0 0");
        x.put(0, 0, 5);
        x.move(0, DOWN);
        move(x, RIGHT, true, "1 2 1 2 2 0");
        x.put(0, 0, 5);
        x.move(0, DOWN);
        move(x, HOME, true, "1 0 1 0 0 0");
        x.put(0, 0, 5);
        x.move(0, DOWN);
        move(x, END, true, "1 2 1 2 2 0");
        x.put(0, 2, 5);
        move(x, PAGE_UP, true, "0 5 0 5 5 0");
        x.put(0, 1, 1);
        x.remove(0, 0, 6);
        move(x, UP, true, "0 0 0 0 1 0");
        move(x, UP, false, "0 0 0 0 1 0");
        move(x, PAGE_UP, false, "0 0 0 0 1 0");
        move(x, LEFT, false, "0 0 0 0 0 0");
        x.put(0, 1, 1);
        x.move(0, UP);
        move(x, HOME, false, "0 0 0 0 0 0");
        x.put(0, 1, 1);
        x.move(0, UP);
        move(x, END, false, "0 0 0 0 0 0");
        PaneLayers y = Check.withLines("abc", "");
        y.put(0, 0, 2);
        move(y, DOWN, true, "1 0 1 0 2 0");
        move(y, DOWN, false, "1 0 1 0 2 0");
        move(y, PAGE_DOWN, false, "1 0 1 0 2 0");
        move(y, RIGHT, false, "1 0 1 0 0 0");
    }

    /** The cursor is at the place 2 of the line 1, which is invisible behind the line 0. */
    private static PaneLayers withInvisibleCursor() {
        PaneLayers x = Check.withLines("ab", "cdef", "g");
        x.addFold(0, 0, 1);
        x.put(0, 1, 2);
        x.setClosed(0, 0, true);
        return x;
    }

    private static void invisible(int move, boolean isAnother, String closed, String open) {
        PaneLayers x = withInvisibleCursor();
        Check.due("the invisible cursor is taken so", "0 0 0 0 2 0", Check.cursor(x, 0));
        move(x, move, isAnother, closed);
        x.setClosed(0, 0, false);
        due(x, "when the fold is open again", open);
    }

    private static void invisibleCursors() {
        invisible(LEFT, false, "0 0 0 0 0 0", "1 2 1 2 0 0");
        invisible(HOME, false, "0 0 0 0 0 0", "1 2 1 2 0 0");
        invisible(UP, false, "0 0 0 0 2 0", "1 2 1 2 2 0");
        invisible(PAGE_UP, false, "0 0 0 0 2 0", "1 2 1 2 2 0");
        invisible(RIGHT, true, "0 1 0 1 1 0", "0 1 0 1 1 0");
        invisible(END, true, "0 2 0 2 2 0", "0 2 0 2 2 0");
        invisible(DOWN, true, "2 0 1 0 2 0", "2 0 2 0 2 0");
        invisible(PAGE_DOWN, true, "2 0 1 0 2 0", "2 0 2 0 2 0");
        PaneLayers x = withInvisibleCursor();
        x.join(1);
        due(x, "edits are kept up with", "0 0 0 0 2 0");
        x.insert(1, 0, 'c');
        x.setClosed(0, 0, false);
        due(x, "in the invisible line", "1 3 1 3 2 0");
        PaneLayers y = Check.withLines("ab", "cd", "ef", "gh");
        y.put(0, 3, 1);
        y.addFold(0, 1, 2);
        y.addFold(0, 2, 3);
        y.setClosed(0, 1, true);
        Check.due("the last visible line ahead", "2 0 2 0 1 0", Check.cursor(y, 0));
        y.setClosed(0, 0, true);
        Check.due("which is another one, if that is invisible", "1 0 1 0 1 0", Check.cursor(y, 0));
        Check.due("a move to there is none", false, y.move(0, HOME));
        y.setClosed(0, 0, false);
        y.setClosed(0, 1, false);
        due(y, "it stayed", "3 1 3 1 0 0");
        PaneLayers z = withMany(30, 4, 0);
        z.scroll(0, 10);
        z.addFold(0, 5, 12);
        z.setClosed(0, 0, true);
        due(z, "a top likewise", "5 0 5 0 0 5");
        z.put(0, 4, 0);
        due(z, "it is left", "4 0 4 0 0 4");
        z.setClosed(0, 0, false);
        due(z, "for good", "4 0 4 0 0 4");
    }

    private static void latestMoves() {
        for (int later = 46; later <= 52; later++) {
            PaneLayers x = Check.withLines("abc", "defgh");
            x.open(1);
            int[] moves = {RIGHT, RIGHT, DOWN, END};
            for (int move : moves) {
                x.move(0, move);
            }
            for (int i = 0; i < later; i++) {
                Check.due("a move that goes nowhere is logged, too", false, x.move(1, LEFT));
            }
            int gone = Math.min(4, later - 46);
            String[] due = {"1 5", "1 5", "1 5", "0 3", "0 0"};
            Check.due("played with " + later + " later ones", 4 - gone, x.play(0, 1));
            Check.due("to the line and place", due[gone], x.cursor(1, 0) + " " + x.cursor(1, 1));
        }
        PaneLayers x = Check.withLines("abcdef");
        x.open(1);
        for (int i = 0; i < 47; i++) {
            x.move(1, LEFT);
        }
        for (int move : new int[] {END, LEFT, LEFT, HOME, RIGHT}) {
            x.move(0, move);
        }
        Check.due("in the order in which they came", 5, x.play(0, 1));
        Check.due("place", 1, x.cursor(1, 1));
        Check.state("a move that is refused", () -> x.move(2, RIGHT) ? 1 : 0);
        Check.argument("a move that there is not", () -> x.move(0, 8) ? 1 : 0);
        x.put(1, 0, 0);
        Check.due("is not logged", 5, x.play(0, 1));
        x.put(1, 0, 0);
        Check.due("nor is one that is played", 5, x.play(0, 1));
        Check.due("place", 1, x.cursor(1, 1));
    }

    private static void playedMoves() {
        PaneLayers x = Check.withLines("abc def ghi jkl", "ab");
        x.shape(1, 10, 2, 0);
        x.open(1);
        x.move(0, DOWN);
        x.move(0, UP);
        x.move(0, END);
        due(x, "the pane of 20 columns", "0 15 0 15 15 0");
        Check.due("all of them moved the cursor", 3, x.play(0, 1));
        Check.due("the pane of 10 columns", "0 7 0 7 7 0", Check.cursor(x, 1));
        Check.due("on the same pane", 3, x.play(0, 0));
        x.close(0);
        Check.due("moves of a closed pane", 2, x.play(0, 1));
        Check.state("on a closed pane", () -> x.play(1, 0));
        Check.due("of a pane without moves", 0, x.play(3, 1));
    }

    private static void scrolls() {
        PaneLayers x = withMany(40, 5, 0);
        Check.due("by 0", 0, x.scroll(0, 0));
        due(x, "nothing happens", "0 0 0 0 0 0");
        Check.due("not ahead of the first row", 0, x.scroll(0, -1));
        Check.due("by 1", 1, x.scroll(0, 1));
        due(x, "to the nearest row", "1 0 1 0 0 1");
        Check.due("by 38", 39, x.scroll(0, 38));
        due(x, "to the last row", "39 0 39 0 0 39");
        Check.due("not behind the last row", 39, x.scroll(0, 1));
        Check.due("by -4", 35, x.scroll(0, -4));
        due(x, "the last row that is shown", "39 0 39 0 0 35");
        Check.due("by -5", 34, x.scroll(0, -1));
        due(x, "the nearest one", "38 0 38 0 0 34");
        Check.due("by -100", 0, x.scroll(0, -100));
        due(x, "the nearest one", "4 0 4 0 0 0");
        Check.due("by 100", 39, x.scroll(0, 100));
        PaneLayers y = Check.withLines("abcdef", "a", "abcdef");
        y.put(0, 0, 4);
        Check.due("scroll", 1, y.scroll(0, 1));
        due(y, "up by the wanted column, which stays", "1 0 1 0 4 1");
        Check.due("scroll", 2, y.scroll(0, 1));
        due(y, "up by the wanted column", "2 4 2 4 4 2");
        Check.due("scroll", 0, y.scroll(0, -2));
        due(y, "a cursor that is shown stays", "2 4 2 4 4 0");
        y.remove(2, 0, 1);
        y.scroll(0, 0);
        due(y, "also if its column is not the wanted one", "2 3 2 3 4 0");
    }

    private static void scrollsWithMargins() {
        PaneLayers x = withMany(40, 5, 1);
        Check.due("by 0", 0, x.scroll(0, 0));
        due(x, "the margin is also at the first row", "1 0 1 0 0 0");
        Check.due("by 1", 1, x.scroll(0, 1));
        due(x, "the row 2", "2 0 2 0 0 1");
        Check.due("back", 0, x.scroll(0, -1));
        due(x, "it is between the margins", "2 0 2 0 0 0");
        x.put(0, 3, 0);
        Check.due("by 0", 0, x.scroll(0, 0));
        due(x, "the last row between them", "3 0 3 0 0 0");
        x.put(0, 3, 1);
        x.insert(3, 0, 'a');
        Check.due("by 2", 2, x.scroll(0, 2));
        due(x, "the first row between them", "3 2 3 2 1 2");
        x.put(0, 3, 0);
        Check.due("by 100", 39, x.scroll(0, 100));
        due(x, "as far as there are rows", "39 0 39 0 0 39");
        Check.due("by -1", 38, x.scroll(0, -1));
        due(x, "now that row is between the margins", "39 0 39 0 0 38");
        Check.due("by -2", 36, x.scroll(0, -2));
        due(x, "it still is", "39 0 39 0 0 36");
        Check.due("by -1", 35, x.scroll(0, -1));
        due(x, "it is the last one in the margin", "38 0 38 0 0 35");
        x.shape(0, 20, 0, 3);
        Check.due("by -1", 34, x.scroll(0, -1));
        due(x, "with 5 rows a margin of 3 is 2", "36 0 36 0 0 34");
        Check.due("by 1", 35, x.scroll(0, 1));
        due(x, "one row is between them", "37 0 37 0 0 35");
    }

    private static void scrolledTops() {
        for (int place = 9; place <= 10; place++) {
            PaneLayers x = Check.withLines("abcdefghijabcdefghijabcdefghij");
            x.shape(0, 10, 0, 0);
            Check.due("scroll", 1, x.scroll(0, 1));
            x.breakLine(0, place);
            Check.due("the top is the place of the row", place < 10 ? 1 : 0, x.cursor(0, 5));
            PaneLayers y = Check.withLines("abcdefghijabcdefghijabcdefghij");
            y.shape(0, 10, 0, 0);
            y.scroll(0, 1);
            y.insert(0, 0, 'a');
            Check.due("by 0", 1, y.scroll(0, 0));
            y.breakLine(0, place);
            Check.due("also if it was behind it in the same row", place < 10 ? 1 : 0, y.cursor(0, 5));
        }
    }

    private static void typing() {
        PaneLayers x = Check.withLines("");
        x.open(1);
        Check.due("type", 1, x.type(0, 'n'));
        due(x, "behind a right one", "0 1 0 0 0 0");
        Check.due("type", 2, x.type(0, 'A'));
        due(x, "behind a wide one", "0 2 0 2 2 0");
        Check.due("type", 3, x.type(0, '~'));
        due(x, "behind a cluster of two signs", "0 3 0 2 2 0");
        Check.due("type", 4, x.type(0, 9));
        due(x, "behind a tab", "0 4 0 0 0 0");
        Check.due("text", "nA~\t", Check.text(x));
        Check.due("the cursor of another pane stays", "0 0 0 4 0 0", Check.cursor(x, 1));
        PaneLayers y = Check.withLines("abcdefghij", "k");
        y.shape(0, 10, 0, 0);
        y.share(0, 1, 1, 1);
        y.open(1);
        y.put(0, 0, 10);
        Check.due("type at the end of a full row", 11, y.type(0, 'l'));
        due(y, "in a new row, which is the first one that is shown", "0 11 1 1 1 1");
        y.put(0, 0, 0);
        Check.due("type ahead of it", 1, y.type(0, 'm'));
        due(y, "the first row", "0 1 0 1 1 0");
        y.put(0, 0, 9);
        Check.due("type the last sign of a row", 10, y.type(0, 'k'));
        due(y, "behind it is the next row", "0 10 1 0 0 1");
        PaneLayers z = withMany(30, 8, 2);
        z.put(0, 5, 1);
        for (int i = 0; i < 10; i++) {
            z.breakLine(2, 1);
        }
        due(z, "out of sight", "15 1 15 1 1 0");
        Check.due("type", 2, z.type(0, 'a'));
        due(z, "the top follows, with the margin", "15 2 15 2 2 10");
    }

    private static void typingInFolds() {
        PaneLayers x = withInvisibleCursor();
        Check.due("type where it is taken to be", 1, x.type(0, 'k'));
        Check.due("text", "kab|cdef|g", Check.text(x));
        x.setClosed(0, 0, false);
        due(x, "there it is", "0 1 0 1 1 0");
        PaneLayers y = withInvisibleCursor();
        for (int i = 0; i < 78; i++) {
            y.insert(0, 0, 'a');
        }
        Check.state("the line where it is taken to be is full", () -> y.type(0, 'k'));
        y.setClosed(0, 0, false);
        Check.due("its own is not", 3, y.type(0, 'k'));
        PaneLayers z = withInvisibleCursor();
        for (int i = 0; i < 76; i++) {
            z.insert(1, 0, 'a');
        }
        Check.due("its own line is full, but not that", 1, z.type(0, 'k'));
    }

    private static void boxes() {
        PaneLayers x = Check.withLines("abc", "", "A", "no");
        x.put(0, 0, 1);
        Check.due("one row", 1, x.typeBox(0, 0, 1, 1, 'k'));
        Check.due("text", "akbc||A|no", Check.text(x));
        due(x, "a cursor at the place stays", "0 1 0 1 1 0");
        Check.due("four rows", 4, x.typeBox(0, 0, 4, 1, 'l'));
        Check.due("text", "alkbc|l|lA|lno", Check.text(x));
        due(x, "and again", "0 1 0 1 1 0");
        Check.due("behind all", 4, x.typeBox(0, 0, 4, 39, 'm'));
        Check.due("text", "alkbmc|ml|lmA|lmno", Check.text(x));
        due(x, "nor does the wanted column go", "0 1 0 1 1 0");
        PaneLayers y = new PaneLayers();
        for (int line = 1; line < 12; line++) {
            y.breakLine(0, 0);
        }
        Check.due("ten rows", 10, y.typeBox(0, 1, 10, 0, 'k'));
        Check.due("text", "|k|k|k|k|k|k|k|k|k|k|", Check.text(y));
        y.addFold(0, 1, 9);
        y.setClosed(0, 0, true);
        Check.due("rows that are shown", 4, y.typeBox(0, 0, 4, 0, 'l'));
        Check.due("text", "l|lk|k|k|k|k|k|k|k|k|lk|l", Check.text(y));
        Check.due("a closed pane", 10, y.typeBox(3, 1, 10, 0, 'm'));
        Check.due("text", "l|mlk|mk|mk|mk|mk|mk|mk|mk|mk|mlk|l", Check.text(y));
    }

    private static void boxesInOneLine() {
        PaneLayers x = Check.withLines("abcdefghijklmabcdefghijkl");
        x.shape(0, 10, 0, 0);
        Check.due("three rows of a line", 3, x.typeBox(0, 0, 3, 0, 'K'));
        Check.due("each place as it was found", "KabcdefghijKklmabcdefgKhijkl", Check.text(x));
        PaneLayers y = Check.withLines("a");
        y.shape(0, 10, 0, 0);
        y.addVirtual(0, 0, 1, Check.virtual("kkkkkkkk"));
        y.addVirtual(0, 0, 1, Check.virtual("kkkkkkkk"));
        y.addVirtual(0, 0, 1, Check.virtual("kkkkkkkk"));
        Check.due("rows", "akkkkkkkkk|kkkkkkkkkk|kkkkk", Check.rows(y, 0));
        Check.due("places that are the same once", 2, y.typeBox(0, 0, 3, 0, 'm'));
        Check.due("text", "mam", Check.text(y));
        PaneLayers z = Check.withLines("a", "b");
        Check.due("the same place of two lines is two", 2, z.typeBox(0, 0, 2, 0, 'm'));
        Check.due("text", "ma|mb", Check.text(z));
        PaneLayers w = Check.withLines("abcdefghijklm");
        w.shape(0, 10, 0, 0);
        w.hide(0, 0, 10, 12);
        w.addVirtual(0, 0, 10, 'k');
        w.open(1);
        w.put(1, 0, 10);
        w.put(0, 0, 11);
        Check.due("two rows of a line", 2, w.typeBox(0, 0, 2, 0, 'M'));
        Check.due("text", "MabcdefghijMklm", Check.text(w));
        Check.due("what is at the place stays ahead of the sign", "0 11", w.cursor(1, 0) + " " + w.cursor(1, 1));
        Check.due("what is behind it goes", "0 13", w.cursor(0, 0) + " " + w.cursor(0, 1));
        Check.due("a span that begins there, too", "Mabcdefgh|ijkMm", Check.rows(w, 0));
        boxesOfVirtualTexts();
    }

    /** Virtual texts ahead of one cluster stand by their numbers, so their places need not rise with the rows. */
    private static void boxesOfVirtualTexts() {
        PaneLayers x = withVirtualTexts(5, 3, 5);
        Check.due("the first place again in the third row", 2, x.typeBox(0, 0, 3, 1, 'm'));
        Check.due("is typed at once", "k~~m~~m", Check.text(x));
        PaneLayers y = withVirtualTexts(5, 3, 4);
        Check.due("places that fall and rise", 3, y.typeBox(0, 0, 3, 1, 'm'));
        Check.due("each place as it was found", "k~~m~m~m", Check.text(y));
        PaneLayers z = withVirtualTexts(5, 3, 5);
        for (int i = 0; i < 73; i++) {
            z.insert(0, 3, '~');
        }
        Check.due("two places of a line of 78", 2, z.typeBox(0, 0, 3, 1, 'm'));
        Check.due("length", 80, z.length(0));
    }

    /** A cluster of five signs, and behind it three virtual texts that fill three rows. */
    private static PaneLayers withVirtualTexts(int first, int second, int third) {
        PaneLayers x = Check.withLines("k~~~~");
        x.shape(0, 10, 0, 0);
        x.addVirtual(0, 0, first, Check.virtual("aaaaaaaa"));
        x.addVirtual(0, 0, second, Check.virtual("bbbbbbbb"));
        x.addVirtual(0, 0, third, Check.virtual("cccccccc"));
        Check.due("rows", "kaaaaaaaab|bbbbbbbccc|ccccc", Check.rows(x, 0));
        return x;
    }

    private static void fullBoxes() {
        PaneLayers x = Check.withLines("a".repeat(79), "b");
        Check.state("two places of a line of 79", () -> x.typeBox(0, 0, 2, 0, 'k'));
        Check.state("also if other lines have room", () -> x.typeBox(0, 2, 3, 0, 'k'));
        Check.due("nothing is typed", 80, x.length(0) + x.length(1));
        Check.due("one place", 2, x.typeBox(0, 3, 2, 0, 'k'));
        Check.due("length", 80, x.length(0));
        Check.state("one place of a line of 80", () -> x.typeBox(0, 3, 1, 0, 'k'));
        Check.state("ahead of other lines", () -> x.typeBox(0, 3, 2, 0, 'k'));
        Check.due("nothing is typed", 2, x.length(1));
        Check.due("another line", 1, x.typeBox(0, 4, 1, 0, 'k'));
        PaneLayers y = Check.withLines("a".repeat(78));
        Check.state("three places of a line of 78", () -> y.typeBox(0, 0, 3, 0, 'k'));
        Check.due("two", 2, y.typeBox(0, 0, 2, 0, 'k'));
        Check.due("length", 80, y.length(0));
        PaneLayers z = Check.withLines("a".repeat(79));
        z.hide(0, 0, 0, 79);
        z.addVirtual(0, 0, 79, Check.virtual("kkkkkkkk"));
        z.addVirtual(0, 0, 79, Check.virtual("kkkkkkkk"));
        z.shape(0, 10, 0, 0);
        Check.due("two rows with the same place need room for one sign", 1, z.typeBox(0, 0, 2, 0, 'm'));
        Check.due("length", 80, z.length(0));
    }
}
