/** Promises 27 to 30: panes that share the screen. */
final class StackTest {
    private static final int NONE = PaneLayers.NONE;

    public static void main(String[] args) {
        openAndClose();
        weights();
        leastHeights();
        locked();
        room();
        kept();
        errors();
        Check.end();
    }

    private static String heights(PaneLayers x) {
        return x.height(0) + " " + x.height(1) + " " + x.height(2) + " " + x.height(3);
    }

    private static PaneLayers withAll() {
        PaneLayers x = new PaneLayers();
        for (int pane = 1; pane < 4; pane++) {
            x.open(pane);
        }
        return x;
    }

    private static void openAndClose() {
        PaneLayers x = new PaneLayers();
        Check.due("heights", "24 0 0 0", heights(x));
        Check.due("open", 12, x.open(2));
        Check.due("heights", "12 0 12 0", heights(x));
        Check.due("open", 8, x.open(1));
        Check.due("heights", "8 8 8 0", heights(x));
        Check.due("open", 6, x.open(3));
        Check.due("close", 3, x.close(0));
        Check.due("heights", "0 8 8 8", heights(x));
        Check.due("close", 2, x.close(3));
        Check.due("close", 1, x.close(1));
        Check.due("heights", "0 0 24 0", heights(x));
        Check.state("close the only one", () -> x.close(2));
        Check.state("close a closed one", () -> x.close(0));
        Check.state("open an open one", () -> x.open(2));
        Check.due("heights", "0 0 24 0", heights(x));
    }

    private static void weights() {
        PaneLayers x = withAll();
        Check.due("share", 10, x.share(1, 2, 3, NONE));
        Check.due("what is left goes in ones from the first one on", "5 10 5 4", heights(x));
        x.close(3);
        Check.due("heights", "6 12 6 0", heights(x));
        Check.due("share", 17, x.share(0, 9, 1, NONE));
        Check.due("heights", "17 4 3 0", heights(x));
        Check.due("share", 6, x.share(2, 4, 1, NONE));
        Check.due("15 weights", "15 3 6 0", heights(x));
    }

    private static void leastHeights() {
        PaneLayers x = new PaneLayers();
        x.share(0, 9, 3, NONE);
        Check.due("open", 3, x.open(1));
        Check.due("heights", "21 3 0 0", heights(x));
        Check.due("share", 8, x.share(1, 1, 8, NONE));
        Check.due("heights", "16 8 0 0", heights(x));
        x.share(0, 4, 3, NONE);
        x.share(1, 4, 3, NONE);
        x.share(2, 1, 7, NONE);
        Check.due("it takes from the one with most above its own", 7, x.open(2));
        Check.due("of several from the first one", "8 9 7 0", heights(x));
        x.share(0, 9, 3, NONE);
        x.share(1, 1, 5, NONE);
        x.share(2, 1, 5, NONE);
        Check.due("two that have less", "14 5 5 0", heights(x));
    }

    private static void locked() {
        PaneLayers x = new PaneLayers();
        Check.due("the only one is not taken as locked", 24, x.share(0, 1, 3, 5));
        Check.due("open", 19, x.open(1));
        Check.due("heights", "5 19 0 0", heights(x));
        Check.due("the last one is not, if all are", 19, x.share(1, 1, 3, 10));
        Check.due("open", 9, x.open(3));
        Check.due("it is if another one is not", "5 10 0 9", heights(x));
        Check.due("open", 5, x.open(2));
        Check.due("heights", "5 10 5 4", heights(x));
        Check.due("lock", 6, x.share(3, 1, 3, 6));
        Check.due("heights", "5 10 3 6", heights(x));
        Check.state("no room for a least height", () -> x.share(2, 1, 4, NONE));
        Check.state("no room for a locked height", () -> x.share(2, 1, 3, 4));
        Check.due("heights", "5 10 3 6", heights(x));
        Check.due("a least height of a locked one counts not", 1, x.share(2, 9, 8, 1));
        Check.due("heights", "5 10 1 8", heights(x));
        Check.due("close", 3, x.close(3));
        Check.due("another one is the last then", "5 10 9 0", heights(x));
        Check.due("unlock", 18, x.share(1, 1, 3, NONE));
        Check.due("heights", "5 18 1 0", heights(x));
    }

    private static void room() {
        PaneLayers x = new PaneLayers();
        x.share(0, 1, 8, NONE);
        Check.due("share of a closed one", 0, x.share(1, 1, 8, NONE));
        x.open(1);
        x.share(2, 1, 8, NONE);
        Check.due("24 rows", 8, x.open(2));
        Check.due("share of a closed one", 0, x.share(3, 1, 1, NONE));
        Check.state("no room for 1", () -> x.open(3));
        Check.due("height", 0, x.height(3));
        Check.state("no room for 9", () -> x.share(2, 1, 8, 9));
        Check.due("8 locked", 8, x.share(2, 1, 3, 8));
        x.close(0);
        Check.due("share of a closed one", 0, x.share(3, 1, 8, 16));
        Check.state("no room for 16", () -> x.open(3));
        x.share(3, 1, 8, NONE);
        Check.due("room for 8", 8, x.open(3));
        Check.due("heights", "0 8 8 8", heights(x));
        PaneLayers y = new PaneLayers();
        y.share(0, 1, 1, 16);
        y.share(1, 1, 1, 9);
        Check.state("a locked one counts also if it is not taken so", () -> y.open(1));
        y.share(1, 1, 1, 8);
        Check.due("16 and 8", 8, y.open(1));
        Check.due("heights", "16 8 0 0", heights(y));
    }

    private static void kept() {
        PaneLayers x = Check.withLines("abcdef", "b", "c");
        x.open(1);
        x.shape(1, 10, 1, 1);
        x.share(1, 3, 3, NONE);
        x.hide(1, 0, 0, 2);
        x.put(1, 1, 1);
        x.draw(1);
        x.close(1);
        Check.due("a closed pane has its layers", "cdef|b|c", Check.rows(x, 1));
        x.insert(1, 0, 'a');
        x.breakLine(0, 0);
        Check.due("a cursor of a closed pane is kept with edits", "2 2 2 2 1 0", Check.cursor(x, 1));
        Check.due("open", 18, x.open(1));
        Check.due("its rows", "|cdef|ab|c", Check.rows(x, 1));
        Check.due("its cursor", "2 2 2 2 1 0", Check.cursor(x, 1));
        Check.due("what was drawn", 2, x.draw(1));
    }

    private static void errors() {
        PaneLayers x = new PaneLayers();
        for (int pane : new int[] {-1, 4, Integer.MAX_VALUE, Integer.MIN_VALUE}) {
            Check.range("open " + pane, () -> x.open(pane));
            Check.range("close " + pane, () -> x.close(pane));
            Check.range("height of " + pane, () -> x.height(pane));
            Check.range("share of " + pane, () -> x.share(pane, 0, 0, 0));
        }
        Check.argument("weight 0", () -> x.share(0, 0, 3, NONE));
        Check.argument("weight 10", () -> x.share(0, 10, 3, NONE));
        Check.argument("least 0", () -> x.share(0, 1, 0, NONE));
        Check.argument("least 9", () -> x.share(0, 1, 9, NONE));
        Check.argument("locked 0", () -> x.share(0, 1, 3, 0));
        Check.argument("locked 17", () -> x.share(0, 1, 3, 17));
        Check.argument("locked -2", () -> x.share(1, 1, 3, -2));
        x.share(1, 1, 1, 16);
        x.open(1);
        x.share(0, 1, 8, NONE);
        Check.argument("out of range, and no room", () -> x.share(0, 10, 8, 9));
        Check.state("no room", () -> x.share(0, 9, 8, 9));
        Check.due("heights", "8 16 0 0", heights(x));
    }
}
