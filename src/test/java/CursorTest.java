/** Promises 31 to 37: cursors, moves that are played, scrolling and typing. */
final class CursorTest {
    private static final int LEFT = PaneLayers.LEFT;
    private static final int RIGHT = PaneLayers.RIGHT;
    private static final int UP = PaneLayers.UP;
    private static final int DOWN = PaneLayers.DOWN;
    private static final int HOME = PaneLayers.HOME;
    private static final int END = PaneLayers.END;
    private static final int PAGE_UP = PaneLayers.PAGE_UP;
    private static final int PAGE_DOWN = PaneLayers.PAGE_DOWN;
    private static final int NONE = PaneLayers.NONE;

    public static void main(String[] args) {
        put();
        sideways();
        shownPlaces();
        upAndDown();
        homeAndEnd();
        pages();
        margins();
        inFolds();
        virtualRows();
        directions();
        moveErrors();
        play();
        scroll();
        scrollWithMargins();
        scrollWithoutOtherRow();
        scrollOutOfInvisibleLine();
        edits();
        topsAndEdits();
        type();
        typeBox();
        typeBoxErrors();
        Check.end();
    }

    /** An object with many lines of two signs. */
    private static PaneLayers withMany(int lines) {
        PaneLayers x = Check.withLines("ab");
        for (int line = 1; line < lines; line++) {
            x.breakLine(line - 1, 2);
            Check.write(x, line, "ab");
        }
        return x;
    }

    private static void move(PaneLayers x, int move, boolean isAnother, String due) {
        Check.due("move " + move, isAnother, x.move(0, move));
        Check.due("cursor behind the move " + move, due, Check.cursor(x, 0));
    }

    private static void put() {
        PaneLayers x = Check.withLines("abcdefghijklm", "ab");
        x.shape(0, 10, 2, 0);
        Check.due("put", 1, x.put(0, 0, 11));
        Check.due("cursor", "0 11 1 3 3 0", Check.cursor(x, 0));
        Check.due("put", 2, x.put(0, 1, 2));
        Check.due("cursor", "1 2 2 2 2 0", Check.cursor(x, 0));
        Check.due("cursor of another pane", "0 0 0 0 0 0", Check.cursor(x, 1));
        for (int pane : new int[] {-1, 4}) {
            Check.range("put in pane " + pane, () -> x.put(pane, 0, -1));
        }
        Check.range("put in line 2", () -> x.put(0, 2, -1));
        Check.range("put in line -1", () -> x.put(1, -1, 0));
        Check.argument("put at -1", () -> x.put(0, 0, -1));
        Check.argument("put behind the end", () -> x.put(0, 1, 3));
        Check.argument("put behind the end in a closed pane", () -> x.put(1, 1, 3));
        Check.state("put in a closed pane", () -> x.put(1, 1, 0));
        x.addFold(0, 0, 1);
        x.setClosed(0, 0, true);
        Check.state("put in an invisible line", () -> x.put(0, 1, 0));
        Check.argument("put behind the end of an invisible line", () -> x.put(0, 1, 3));
        x.setClosed(0, 0, false);
        Check.due("cursor", "1 2 2 2 2 0", Check.cursor(x, 0));
    }

    private static void sideways() {
        PaneLayers x = Check.withLines("abc", "", "de");
        x.put(0, 0, 2);
        move(x, RIGHT, true, "0 3 0 3 3 0");
        move(x, RIGHT, true, "1 0 1 0 0 0");
        move(x, RIGHT, true, "2 0 2 0 0 0");
        move(x, LEFT, true, "1 0 1 0 0 0");
        move(x, LEFT, true, "0 3 0 3 3 0");
        move(x, LEFT, true, "0 2 0 2 2 0");
        x.put(0, 0, 0);
        move(x, LEFT, false, "0 0 0 0 0 0");
        x.put(0, 2, 2);
        move(x, RIGHT, false, "2 2 2 2 2 0");
    }

    private static void shownPlaces() {
        PaneLayers x = Check.withLines("ab~~cdef", "g");
        x.hide(0, 0, 4, 6);
        x.addVirtual(0, 0, 5, Check.virtual("kk"));
        x.put(0, 0, 1);
        move(x, RIGHT, true, "0 6 0 4 4 0");
        move(x, LEFT, true, "0 1 0 1 1 0");
        x.put(0, 0, 3);
        move(x, LEFT, true, "0 1 0 1 1 0");
        x.put(0, 0, 3);
        move(x, RIGHT, true, "0 6 0 4 4 0");
        x.put(0, 0, 5);
        move(x, LEFT, true, "0 1 0 1 1 0");
        x.hide(0, 0, 0, 1);
        move(x, LEFT, false, "0 1 0 0 0 0");
        x.put(0, 1, 0);
        move(x, LEFT, true, "0 8 0 5 5 0");
        x.hide(0, 0, 0, 8);
        x.put(0, 0, 4);
        move(x, LEFT, false, "0 4 0 0 0 0");
        move(x, RIGHT, true, "0 8 0 0 0 0");
        PaneLayers y = Check.withLines("a", "bcd");
        y.hide(0, 1, 0, 2);
        y.put(0, 0, 1);
        move(y, RIGHT, true, "1 2 1 0 0 0");
    }

    private static void upAndDown() {
        PaneLayers x = Check.withLines("abcdef", "ab", "abcdef");
        x.put(0, 0, 5);
        move(x, DOWN, true, "1 1 1 1 5 0");
        move(x, DOWN, true, "2 5 2 5 5 0");
        move(x, DOWN, false, "2 5 2 5 5 0");
        move(x, UP, true, "1 1 1 1 5 0");
        move(x, LEFT, true, "1 0 1 0 0 0");
        move(x, UP, true, "0 0 0 0 0 0");
        move(x, UP, false, "0 0 0 0 0 0");
        PaneLayers y = Check.withLines("", "abc");
        y.put(0, 1, 3);
        move(y, UP, true, "0 0 0 0 3 0");
        move(y, LEFT, false, "0 0 0 0 0 0");
        y.put(0, 1, 3);
        move(y, UP, true, "0 0 0 0 3 0");
        move(y, HOME, false, "0 0 0 0 0 0");
        y.put(0, 1, 3);
        move(y, UP, true, "0 0 0 0 3 0");
        move(y, END, false, "0 0 0 0 0 0");
        y.put(0, 1, 2);
        move(y, DOWN, false, "1 2 1 2 2 0");
    }

    private static void homeAndEnd() {
        PaneLayers x = Check.withLines("hedge black lilac");
        x.shape(0, 10, 2, 0);
        Check.due("rows", "hedge |black |lilac", Check.rows(x, 0));
        x.put(0, 0, 8);
        move(x, HOME, true, "0 6 1 2 2 0");
        move(x, HOME, false, "0 6 1 2 2 0");
        move(x, END, true, "0 11 1 7 7 0");
        move(x, END, false, "0 11 1 7 7 0");
        move(x, RIGHT, true, "0 12 2 2 2 0");
        move(x, END, true, "0 17 2 7 7 0");
        move(x, UP, true, "0 11 1 7 7 0");
        move(x, DOWN, true, "0 16 2 6 7 0");
        move(x, HOME, true, "0 12 2 2 2 0");
        x.hide(0, 0, 6, 7);
        x.hide(0, 0, 11, 12);
        x.put(0, 0, 9);
        move(x, HOME, true, "0 7 1 2 2 0");
        x.addVirtual(0, 0, 17, Check.virtual("kk"));
        x.put(0, 0, 13);
        Check.due("rows", "hedge |lacklila|ckk", Check.rows(x, 0));
        move(x, END, true, "0 15 1 9 9 0");
        x.put(0, 0, 16);
        move(x, END, true, "0 17 2 3 3 0");
    }

    private static void pages() {
        PaneLayers x = withMany(30);
        x.put(0, 0, 1);
        move(x, PAGE_DOWN, true, "24 1 24 1 1 1");
        move(x, PAGE_DOWN, true, "29 1 29 1 1 6");
        move(x, PAGE_DOWN, false, "29 1 29 1 1 6");
        move(x, PAGE_UP, true, "5 1 5 1 1 5");
        move(x, PAGE_UP, true, "0 1 0 1 1 0");
        move(x, PAGE_UP, false, "0 1 0 1 1 0");
        x.open(1);
        move(x, PAGE_DOWN, true, "12 1 12 1 1 1");
        x.remove(12, 0, 2);
        x.put(0, 11, 2);
        move(x, PAGE_DOWN, true, "23 1 23 1 2 12");
        move(x, PAGE_UP, true, "11 1 11 1 2 11");
        move(x, DOWN, true, "12 0 12 0 2 11");
        move(x, DOWN, true, "13 1 13 1 2 11");
    }

    private static void margins() {
        PaneLayers x = withMany(40);
        x.shape(0, 20, 0, 3);
        x.put(0, 20, 0);
        Check.due("at the margin", 0, x.cursor(0, 5));
        x.put(0, 21, 0);
        Check.due("below it", 1, x.cursor(0, 5));
        x.put(0, 4, 0);
        Check.due("at the margin above", 1, x.cursor(0, 5));
        x.put(0, 3, 0);
        Check.due("above it", 0, x.cursor(0, 5));
        x.put(0, 39, 0);
        Check.due("below the last row by the margin", 19, x.cursor(0, 5));
        x.put(0, 1, 0);
        Check.due("not above the first row", 0, x.cursor(0, 5));
        x.share(0, 1, 1, 4);
        x.open(1);
        x.put(0, 9, 0);
        Check.due("a margin of 1 with 4 rows", 7, x.cursor(0, 5));
        x.put(0, 8, 0);
        Check.due("it stays", 7, x.cursor(0, 5));
        x.put(0, 7, 0);
        Check.due("up again", 6, x.cursor(0, 5));
        x.share(0, 1, 1, 2);
        x.put(0, 30, 0);
        Check.due("no margin with 2 rows", 29, x.cursor(0, 5));
        x.share(0, 1, 1, 1);
        x.put(0, 10, 0);
        Check.due("with 1 row", 10, x.cursor(0, 5));
        Check.due("up", true, x.move(0, UP));
        Check.due("with 1 row", 9, x.cursor(0, 5));
    }

    private static void inFolds() {
        PaneLayers x = Check.withLines("ab", "cd", "ef", "gh");
        x.put(0, 2, 1);
        x.addFold(0, 1, 2);
        x.setClosed(0, 0, true);
        Check.due("as it is taken", "1 0 1 0 1 0", Check.cursor(x, 0));
        move(x, HOME, false, "1 0 1 0 0 0");
        x.setClosed(0, 0, false);
        Check.due("it stayed as it was", "2 1 2 1 0 0", Check.cursor(x, 0));
        x.setClosed(0, 0, true);
        move(x, LEFT, true, "0 2 0 2 2 0");
        move(x, RIGHT, true, "1 0 1 0 0 0");
        move(x, END, true, "1 2 1 2 2 0");
        move(x, RIGHT, true, "3 0 2 0 0 0");
        move(x, LEFT, true, "1 2 1 2 2 0");
        move(x, DOWN, true, "3 1 2 1 2 0");
        move(x, UP, true, "1 2 1 2 2 0");
        x.setClosed(0, 0, false);
        x.put(0, 2, 0);
        x.setClosed(0, 0, true);
        x.breakLine(0, 1);
        Check.due("kept with edits in a fold", "2 0 2 0 0 0", Check.cursor(x, 0));
        x.setClosed(0, 0, false);
        Check.due("opened", "3 0 3 0 0 0", Check.cursor(x, 0));
        PaneLayers y = withMany(30);
        y.put(0, 29, 0);
        Check.due("top", 6, y.cursor(0, 5));
        y.addFold(0, 2, 10);
        y.setClosed(0, 0, true);
        Check.due("a top in a fold", 2, y.cursor(0, 5));
        y.setClosed(0, 0, false);
        Check.due("opened", 6, y.cursor(0, 5));
    }

    private static void virtualRows() {
        PaneLayers x = Check.withLines("b", "c");
        x.shape(0, 10, 0, 0);
        x.addVirtual(0, 0, 0, Check.virtual("aaaaaaaa"));
        x.addVirtual(0, 0, 0, Check.virtual("aaaaaaaa"));
        Check.due("rows", "aaaaaaaaaa|aaaaaab|c", Check.rows(x, 0));
        Check.due("cursor", "0 0 1 6 0 1", Check.cursor(x, 0));
        move(x, UP, false, "0 0 1 6 0 1");
        move(x, END, true, "0 1 1 7 7 1");
        move(x, DOWN, true, "1 0 2 0 7 1");
        x.hide(0, 0, 0, 1);
        x.put(0, 0, 1);
        Check.due("without the text", "0 1 0 0 0 0", Check.cursor(x, 0));
        move(x, END, false, "0 1 0 0 0 0");
        move(x, HOME, true, "0 0 0 0 0 0");
        move(x, HOME, false, "0 0 0 0 0 0");
        move(x, DOWN, false, "0 0 0 0 0 0");
    }

    private static void directions() {
        PaneLayers x = Check.withLines("abno", "abcd");
        x.put(0, 0, 2);
        Check.due("cursor", "0 2 0 4 4 0", Check.cursor(x, 0));
        move(x, RIGHT, true, "0 3 0 3 3 0");
        move(x, END, true, "0 4 0 2 2 0");
        move(x, DOWN, true, "1 2 1 2 2 0");
        move(x, UP, true, "0 3 0 3 2 0");
    }

    private static void moveErrors() {
        PaneLayers x = Check.withLines("ab");
        for (int pane : new int[] {-1, 4}) {
            Check.range("move in pane " + pane, () -> x.move(pane, -1) ? 1 : 0);
            Check.range("cursor of pane " + pane, () -> x.cursor(pane, -1));
            Check.range("play pane " + pane, () -> x.play(pane, 1));
            Check.range("play on pane " + pane, () -> x.play(0, pane));
        }
        Check.argument("move -1", () -> x.move(0, -1) ? 1 : 0);
        Check.argument("move 8", () -> x.move(0, 8) ? 1 : 0);
        Check.argument("move 8 in a closed pane", () -> x.move(1, 8) ? 1 : 0);
        Check.state("move in a closed pane", () -> x.move(1, LEFT) ? 1 : 0);
        Check.argument("cursor, -1", () -> x.cursor(0, -1));
        Check.argument("cursor, 6", () -> x.cursor(1, 6));
        Check.state("play on a closed pane", () -> x.play(0, 1));
        Check.due("no move was logged", 0, x.play(1, 0) + x.play(0, 0));
    }

    private static void play() {
        PaneLayers x = Check.withLines("abc", "defgh");
        x.open(1);
        for (int move : new int[] {RIGHT, RIGHT, DOWN, END}) {
            Check.due("move", true, x.move(0, move));
        }
        Check.due("play", 4, x.play(0, 1));
        Check.due("cursor of the other pane", "1 5 1 5 5 0", Check.cursor(x, 1));
        Check.due("play again", 0, x.play(0, 1));
        Check.due("nothing is logged by it", 0, x.play(1, 0));
        x.put(1, 0, 0);
        Check.due("play from the beginning", 4, x.play(0, 1));
        x.put(0, 0, 0);
        Check.due("play on the same pane", 4, x.play(0, 0));
        x.put(1, 0, 0);
        for (int i = 0; i < 47; i++) {
            Check.due("a move that goes nowhere", false, x.move(1, LEFT));
        }
        Check.due("the latest 50", 3, x.play(0, 1));
        Check.due("cursor", "1 5 1 5 5 0", Check.cursor(x, 1));
        x.put(1, 0, 2);
        x.close(0);
        Check.due("moves of a closed pane", 2, x.play(1, 1));
        Check.due("play one's own", "0 0 0 0 0 0", Check.cursor(x, 1));
        x.put(1, 0, 0);
        Check.due("play moves of a closed pane", 3, x.play(0, 1));
        Check.state("play on a closed pane", () -> x.play(1, 0));
        PaneLayers y = Check.withLines("hedge black lilac");
        y.shape(1, 10, 2, 0);
        y.open(1);
        y.move(0, END);
        y.move(0, DOWN);
        Check.due("moves on a pane of another width", 2, y.play(0, 1));
        Check.due("cursor", "0 9 1 5 5 0", Check.cursor(y, 1));
        Check.due("cursor of the first pane", "0 17 0 17 17 0", Check.cursor(y, 0));
        PaneLayers z = withMany(40);
        z.share(1, 1, 4, 4);
        z.open(1);
        z.move(0, PAGE_DOWN);
        Check.due("pages of the first pane", 20, z.cursor(0, 0));
        Check.due("play", 1, z.play(0, 1));
        Check.due("pages of the other pane", 4, z.cursor(1, 0));
        Check.due("its top follows", 1, z.cursor(1, 5));
    }

    private static void scroll() {
        PaneLayers x = withMany(30);
        Check.due("scroll", 5, x.scroll(0, 5));
        Check.due("cursor", "5 0 5 0 0 5", Check.cursor(x, 0));
        Check.due("scroll back", 3, x.scroll(0, -2));
        Check.due("the cursor stays", "5 0 5 0 0 3", Check.cursor(x, 0));
        Check.due("to the last row", 29, x.scroll(0, 100));
        Check.due("cursor", "29 0 29 0 0 29", Check.cursor(x, 0));
        Check.due("to the first row", 0, x.scroll(0, -100));
        Check.due("cursor", "23 0 23 0 0 0", Check.cursor(x, 0));
        Check.due("by 0", 0, x.scroll(0, 0));
        x.put(0, 10, 1);
        x.remove(12, 0, 2);
        Check.due("scroll", 12, x.scroll(0, 12));
        Check.due("up by the wanted column", "12 0 12 0 1 12", Check.cursor(x, 0));
        Check.due("scroll", 13, x.scroll(0, 1));
        Check.due("which stays", "13 1 13 1 1 13", Check.cursor(x, 0));
        x.addFold(0, 0, 20);
        x.setClosed(0, 0, true);
        Check.due("a top in a fold", 0, x.cursor(0, 5));
        Check.due("rows are those that are shown", 2, x.scroll(0, 2));
        Check.due("cursor", "22 1 2 1 1 2", Check.cursor(x, 0));
        for (int pane : new int[] {-1, 4}) {
            Check.range("scroll pane " + pane, () -> x.scroll(pane, 101));
        }
        Check.argument("by 101", () -> x.scroll(0, 101));
        Check.argument("by -101", () -> x.scroll(0, -101));
        Check.argument("by 101 in a closed pane", () -> x.scroll(1, 101));
        Check.state("in a closed pane", () -> x.scroll(1, 0));
    }

    private static void scrollWithMargins() {
        PaneLayers x = withMany(30);
        x.shape(0, 20, 0, 2);
        Check.due("scroll", 1, x.scroll(0, 1));
        Check.due("cursor", "3 0 3 0 0 1", Check.cursor(x, 0));
        x.put(0, 22, 0);
        Check.due("top", 1, x.cursor(0, 5));
        Check.due("scroll", 0, x.scroll(0, -1));
        Check.due("cursor", "21 0 21 0 0 0", Check.cursor(x, 0));
        Check.due("scroll", 28, x.scroll(0, 28));
        Check.due("as far as there are rows", "29 0 29 0 0 28", Check.cursor(x, 0));
    }

    private static void scrollWithoutOtherRow() {
        PaneLayers x = new PaneLayers();
        x.shape(0, 10, 0, 1);
        Check.due("type", 1, x.type(0, '<'));
        Check.due("scroll", 0, x.scroll(0, 0));
        Check.due("the cursor has no other row", "0 1 0 1 1 0", Check.cursor(x, 0));
        Check.due("type", 2, x.type(0, '='));
        Check.due("the text", "<=", Check.text(x));

        PaneLayers y = withMany(30);
        y.shape(0, 20, 0, 2);
        y.put(0, 29, 1);
        y.insert(29, 0, 'c');
        Check.due("scroll", 29, y.scroll(0, 29));
        Check.due("the last row is the nearest one", "29 2 29 2 1 29", Check.cursor(y, 0));
        Check.due("scroll", 28, y.scroll(0, -1));
        Check.due("and still is", "29 2 29 2 1 28", Check.cursor(y, 0));
        y.put(0, 28, 2);
        y.move(0, HOME);
        Check.due("scroll", 28, y.scroll(0, 2));
        Check.due("from another row to the last one", "29 0 29 0 0 28", Check.cursor(y, 0));

        PaneLayers z = Check.withLines("abc", "abc");
        z.shape(0, 20, 0, 1);
        z.addFold(0, 0, 1);
        z.put(0, 1, 2);
        z.setClosed(0, 0, true);
        Check.due("scroll", 0, z.scroll(0, 0));
        Check.due("an invisible cursor", "0 0 0 0 2 0", Check.cursor(z, 0));
        z.setClosed(0, 0, false);
        Check.due("stays where it is", "1 2 1 2 2 0", Check.cursor(z, 0));
    }

    private static void scrollOutOfInvisibleLine() {
        PaneLayers x = Check.withLines("", "abc");
        x.shape(0, 10, 0, 1);
        x.addVirtual(0, 0, 0, Check.virtual("!!!!!!!!"));
        x.addFold(0, 0, 1);
        x.put(0, 1, 2);
        x.setClosed(0, 0, true);
        Check.due("a move to where the cursor is taken to be", false, x.move(0, DOWN));
        x.setClosed(0, 0, false);
        Check.due("leaves it in its line", "1 2 1 2 2 0", Check.cursor(x, 0));
        x.setClosed(0, 0, true);
        Check.due("scroll", 0, x.scroll(0, 0));
        Check.due("the row 1 is at the same place", "0 0 0 0 2 0", Check.cursor(x, 0));
        x.setClosed(0, 0, false);
        Check.due("but the cursor has gone there", "0 0 0 0 2 0", Check.cursor(x, 0));

        PaneLayers y = Check.withLines("abc", "abc", "abc");
        y.addFold(0, 0, 1);
        y.put(0, 1, 2);
        y.setClosed(0, 0, true);
        Check.due("scroll", 1, y.scroll(0, 1));
        Check.due("to another line", "2 2 1 2 2 1", Check.cursor(y, 0));
        y.setClosed(0, 0, false);
        Check.due("it stays there", "2 2 2 2 2 2", Check.cursor(y, 0));
    }

    private static void edits() {
        PaneLayers x = Check.withLines("abcd", "ef");
        x.put(0, 0, 2);
        x.insert(0, 2, 'k');
        Check.due("a sign at the cursor", "0 2 0 2 2 0", Check.cursor(x, 0));
        x.insert(0, 1, 'k');
        Check.due("a sign ahead of it", "0 3 0 3 2 0", Check.cursor(x, 0));
        x.remove(0, 0, 1);
        Check.due("a sign ahead of it goes", "0 2 0 2 2 0", Check.cursor(x, 0));
        x.remove(0, 1, 3);
        Check.due("signs round it go", "0 1 0 1 2 0", Check.cursor(x, 0));
        x.breakLine(0, 1);
        Check.due("it stays at a break", "0 1 0 1 2 0", Check.cursor(x, 0));
        x.join(0);
        x.breakLine(0, 0);
        Check.due("it goes with the signs", "1 1 1 1 2 0", Check.cursor(x, 0));
        x.put(0, 2, 1);
        x.join(1);
        Check.due("it goes to the line ahead", "1 4 1 4 1 0", Check.cursor(x, 0));
    }

    private static void topsAndEdits() {
        PaneLayers x = Check.withLines("abcdefghijklmabcdefghijklmabcdefghijklmabcdefghijklm");
        x.shape(0, 10, 0, 0);
        Check.due("scroll", 2, x.scroll(0, 2));
        x.insert(0, 20, 'a');
        Check.due("a sign at the top", 2, x.cursor(0, 5));
        x.insert(0, 19, 'a');
        Check.due("signs ahead of the top", 2, x.cursor(0, 5));
        for (int i = 0; i < 9; i++) {
            x.insert(0, 0, 'a');
        }
        Check.due("a row of signs ahead of the top", 3, x.cursor(0, 5));
        x.remove(0, 0, 20);
        Check.due("two rows of signs ahead of the top go", 1, x.cursor(0, 5));
        x.breakLine(0, 5);
        Check.due("the top goes to the new line", 1, x.cursor(0, 5));
        x.join(0);
        Check.due("and comes back", 1, x.cursor(0, 5));
        x.remove(0, 2, 30);
        Check.due("signs round the top go", 0, x.cursor(0, 5));
    }

    private static void type() {
        PaneLayers x = Check.withLines("abc", "d");
        x.open(1);
        x.put(0, 0, 1);
        x.put(1, 0, 1);
        Check.due("type", 2, x.type(0, 'H'));
        Check.due("text", "aHbc|d", Check.text(x));
        Check.due("cursor", "0 2 0 3 3 0", Check.cursor(x, 0));
        Check.due("cursor of another pane", "0 1 0 1 1 0", Check.cursor(x, 1));
        Check.due("type a tab", 3, x.type(0, 9));
        Check.due("cursor", "0 3 0 4 4 0", Check.cursor(x, 0));
        x.addFold(0, 0, 1);
        x.put(0, 1, 1);
        x.setClosed(0, 0, true);
        Check.due("type where it is taken to be", 1, x.type(0, 'k'));
        Check.due("text", "kaH\tbc|d", Check.text(x));
        x.setClosed(0, 0, false);
        Check.due("the cursor is there", "0 1 0 1 1 0", Check.cursor(x, 0));
        for (int pane : new int[] {-1, 4}) {
            Check.range("type in pane " + pane, () -> x.type(pane, 0));
        }
        for (int sign : new int[] {-1, 8, 10, 31, 127}) {
            Check.argument("type " + sign, () -> x.type(0, sign));
            Check.argument("type " + sign + " in a closed pane", () -> x.type(2, sign));
        }
        Check.state("type in a closed pane", () -> x.type(2, 'a'));
        Check.write(x, 0, "a".repeat(74));
        Check.state("type into 80", () -> x.type(0, 'a'));
        Check.argument("type no sign into 80", () -> x.type(0, 127));
        Check.due("text", 80, x.length(0));
        PaneLayers y = Check.withLines("a");
        y.put(0, 0, 1);
        for (int i = 0; i < 30; i++) {
            y.breakLine(0, 0);
        }
        Check.due("the top stays", "30 1 30 1 1 0", Check.cursor(y, 0));
        Check.due("type", 2, y.type(0, '~'));
        Check.due("the top follows", "30 2 30 1 1 7", Check.cursor(y, 0));
    }

    private static void typeBox() {
        PaneLayers x = Check.withLines("abcd", "e", "", "fghi");
        x.put(0, 0, 3);
        Check.due("type", 4, x.typeBox(0, 0, 4, 2, 'k'));
        Check.due("text", "abkcd|ke|k|fgkhi", Check.text(x));
        Check.due("cursors are kept", "0 4 0 4 3 0", Check.cursor(x, 0));
        Check.due("in a closed pane", 1, x.typeBox(3, 1, 1, 0, '.'));
        Check.due("text", "abkcd|.ke|k|fgkhi", Check.text(x));
        PaneLayers y = Check.withLines("hedge black lilac");
        y.shape(0, 10, 2, 0);
        Check.due("in rows of one line", 3, y.typeBox(0, 0, 3, 2, 'K'));
        Check.due("text", "heKdge Kblack Klilac", Check.text(y));
        PaneLayers z = Check.withLines("b", "c", "d");
        z.shape(0, 10, 0, 0);
        z.addVirtual(0, 0, 0, Check.virtual("aaaaaaaa"));
        z.addVirtual(0, 0, 0, Check.virtual("aaaaaaaa"));
        z.addFold(0, 1, 2);
        z.setClosed(0, 0, true);
        Check.due("places that are the same once", 2, z.typeBox(0, 0, 3, 3, '-'));
        Check.due("text", "-b|c-|d", Check.text(z));
    }

    private static void typeBoxErrors() {
        PaneLayers x = Check.withLines("", "hedge black lilac");
        x.shape(0, 10, 2, 0);
        Check.write(x, 1, "m".repeat(62));
        Check.due("length", 79, x.length(1));
        Check.range("pane 4", () -> x.typeBox(4, 0, 0, 0, 'a'));
        Check.range("pane -1", () -> x.typeBox(-1, 0, 11, 0, 'a'));
        Check.argument("0 rows", () -> x.typeBox(0, -1, 0, 0, 'a'));
        Check.argument("11 rows", () -> x.typeBox(0, 1000, 11, 40, 0));
        Check.range("row -1", () -> x.typeBox(0, -1, 1, 40, 0));
        Check.range("no row", () -> x.typeBox(0, x.rows(0), 1, 40, 0));
        Check.range("the last row", () -> x.typeBox(0, x.rows(0) - 2, 3, 40, 0));
        Check.range("the last int", () -> x.typeBox(0, Integer.MAX_VALUE, 3, 0, 'a'));
        Check.argument("column -1", () -> x.typeBox(0, 1, 2, -1, 'a'));
        Check.argument("column 40", () -> x.typeBox(0, 1, 2, 40, 'a'));
        for (int sign : new int[] {0, 8, 10, 31, 127}) {
            Check.argument("sign " + sign, () -> x.typeBox(0, 1, 2, 0, sign));
        }
        Check.state("81 signs", () -> x.typeBox(0, 0, 3, 0, 'a'));
        Check.due("nothing is typed", 0, x.length(0));
        Check.due("nothing is typed", 79, x.length(1));
        Check.due("80 signs", 2, x.typeBox(0, 0, 2, 0, 'a'));
        Check.state("81 signs", () -> x.typeBox(0, 1, 1, 0, 'a'));
        Check.due("rows up to the last one", 1, x.typeBox(0, 0, 1, 39, 'a'));
    }
}
