/** The section "Stack", with promises 27 to 30: how the rows are shared, and where room ends. */
final class StackEdgeTest {
    private static final int NONE = PaneLayers.NONE;

    public static void main(String[] args) {
        weights();
        leastHeights();
        lockedOnes();
        theLastOne();
        roomToOpen();
        roomToShare();
        closedOnes();
        heightsChange();
        Check.end();
    }

    private static String heights(PaneLayers x) {
        return x.height(0) + " " + x.height(1) + " " + x.height(2) + " " + x.height(3);
    }

    /** An object in which the first panes are open; each has a weight, a least height and a locked one. */
    private static PaneLayers withShares(int... shares) {
        PaneLayers x = new PaneLayers();
        for (int pane = 0; 3 * pane < shares.length; pane++) {
            x.share(pane, shares[3 * pane], shares[3 * pane + 1], shares[3 * pane + 2]);
        }
        for (int pane = 1; 3 * pane < shares.length; pane++) {
            x.open(pane);
        }
        return x;
    }

    private static void due(String due, int... shares) {
        Check.due("heights with " + java.util.Arrays.toString(shares), due, heights(withShares(shares)));
    }

    private static void weights() {
        due("24 0 0 0", 9, 8, NONE);
        due("12 12 0 0", 1, 1, NONE, 1, 1, NONE);
        due("12 12 0 0", 9, 1, NONE, 9, 1, NONE);
        due("8 8 8 0", 5, 1, NONE, 5, 1, NONE, 5, 1, NONE);
        due("6 6 6 6", 2, 1, NONE, 2, 1, NONE, 2, 1, NONE, 2, 1, NONE);
        due("22 2 0 0", 9, 1, NONE, 1, 1, NONE);
        due("3 21 0 0", 1, 1, NONE, 9, 1, NONE);
        due("10 5 9 0", 2, 1, NONE, 1, 1, NONE, 2, 1, NONE);
        due("4 7 13 0", 1, 1, NONE, 2, 1, NONE, 4, 1, NONE);
        due("3 5 6 10", 1, 1, NONE, 2, 1, NONE, 3, 1, NONE, 5, 1, NONE);
        due("1 8 8 7", 1, 1, NONE, 8, 1, NONE, 8, 1, NONE, 8, 1, NONE);
    }

    private static void leastHeights() {
        due("21 3 0 0", 9, 3, NONE, 1, 3, NONE);
        due("22 2 0 0", 9, 3, NONE, 1, 2, NONE);
        due("16 8 0 0", 9, 1, NONE, 1, 8, NONE);
        due("8 8 8 0", 2, 8, NONE, 1, 8, NONE, 1, 8, NONE);
        due("9 8 7 0", 2, 8, NONE, 1, 8, NONE, 1, 7, NONE);
        due("8 8 8 0", 1, 8, NONE, 9, 1, NONE, 9, 1, NONE);
        due("7 8 9 0", 1, 7, NONE, 9, 1, NONE, 9, 1, NONE);
        due("5 12 7 0", 1, 5, NONE, 6, 8, NONE, 5, 1, NONE);
        due("4 6 14 0", 1, 4, NONE, 1, 6, NONE, 9, 1, NONE);
        due("8 8 7 1", 1, 8, NONE, 1, 8, NONE, 1, 7, NONE, 1, 1, NONE);
        due("6 6 6 6", 9, 6, NONE, 1, 6, NONE, 1, 6, NONE, 1, 6, NONE);
    }

    private static void lockedOnes() {
        due("5 19 0 0", 1, 3, 5, 1, 3, NONE);
        due("8 16 0 0", 1, 3, NONE, 1, 3, 16);
        due("1 23 0 0", 1, 3, 1, 1, 3, NONE);
        due("7 10 7 0", 1, 3, NONE, 9, 3, 10, 1, 3, NONE);
        due("10 10 4 0", 2, 3, NONE, 1, 3, 10, 1, 3, NONE);
        due("3 16 5 0", 9, 3, NONE, 9, 3, 16, 9, 3, 5);
        due("13 5 6 0", 1, 3, NONE, 1, 3, 5, 1, 3, 6);
        due("5 6 13 0", 1, 3, 5, 1, 3, 6, 1, 3, NONE);
        due("5 4 8 7", 1, 3, 5, 1, 4, NONE, 1, 8, 8, 2, 3, NONE);
        due("23 1 0 0", 1, 8, NONE, 1, 8, 1);
    }

    private static void theLastOne() {
        due("24 0 0 0", 1, 3, 1);
        due("24 0 0 0", 1, 3, 16);
        due("5 19 0 0", 1, 3, 5, 1, 3, 10);
        due("16 8 0 0", 1, 3, 16, 1, 3, 8);
        due("5 6 13 0", 1, 3, 5, 1, 3, 6, 1, 3, 7);
        due("5 6 7 6", 1, 3, 5, 1, 3, 6, 1, 3, 7, 1, 3, 1);
        PaneLayers x = withShares(1, 3, 5, 1, 3, 6, 1, 3, 7);
        Check.due("close the last one", 2, x.close(2));
        Check.due("then the one ahead is the last one", "5 19 0 0", heights(x));
        Check.due("close it, too", 1, x.close(1));
        Check.due("then the first one is the only one", "24 0 0 0", heights(x));
        Check.due("open the last one again", 19, x.open(2));
        Check.due("it is behind the first one", "5 0 19 0", heights(x));
        Check.due("one that is opened later stands ahead of it, and is locked", 6, x.open(1));
        Check.due("the last one is that with the greatest number", "5 6 13 0", heights(x));
    }

    private static void roomToOpen() {
        PaneLayers x = withShares(1, 8, NONE, 1, 8, NONE, 1, 7, NONE);
        x.share(3, 1, 2, NONE);
        Check.state("25 rows", () -> x.open(3));
        Check.due("it stays closed", 0, x.height(3));
        x.share(3, 1, 1, NONE);
        Check.due("24 rows", 1, x.open(3));
        Check.due("all have their least heights", "8 8 7 1", heights(x));
        PaneLayers y = withShares(1, 8, 16);
        y.share(1, 1, 1, 9);
        Check.state("16 and 9 locked, even if the last one is not taken as locked", () -> y.open(1));
        y.share(1, 1, 8, 8);
        Check.due("16 and 8 locked", 8, y.open(1));
        Check.due("close", 1, y.close(0));
        y.share(1, 1, 8, NONE);
        Check.due("a locked height and a least one", 16, y.open(0));
        y.share(2, 1, 1, NONE);
        Check.state("and not one row more", () -> y.open(2));
        y.share(0, 1, 8, 15);
        Check.due("but with one that is free", 1, y.open(2));
        Check.due("heights", "15 8 1 0", heights(y));
        PaneLayers z = withShares(1, 3, 16, 1, 8, 5);
        z.share(2, 1, 3, NONE);
        Check.due("of a locked one the least height counts not", 3, z.open(2));
        Check.due("heights", "16 5 3 0", heights(z));
    }

    private static void roomToShare() {
        PaneLayers x = withShares(1, 8, NONE, 1, 8, NONE, 1, 7, NONE);
        Check.due("a least height up to 24 rows", 8, x.share(2, 1, 8, NONE));
        Check.state("a locked one beyond them", () -> x.share(2, 1, 8, 9));
        Check.state("of another pane", () -> x.share(0, 1, 8, 9));
        Check.due("a locked one up to them", 8, x.share(2, 1, 8, 8));
        Check.due("less", 1, x.share(2, 1, 8, 1));
        Check.due("heights", "12 11 1 0", heights(x));
        Check.due("16 and 8 and 0", 0, x.share(3, 9, 8, 16));
        Check.due("the others as before", "12 11 1 0", heights(x));
        Check.due("15 and 8 and 1", 15, x.share(1, 1, 8, 15));
        Check.state("16 and 8 and 1", () -> x.share(1, 1, 8, 16));
        Check.due("heights", "8 15 1 0", heights(x));
        Check.state("the last one counts with its locked height: unlocked it has no room",
            () -> x.share(2, 1, 2, NONE));
        Check.due("with a least height of 1 it has", 1, x.share(2, 1, 1, NONE));
        PaneLayers y = withShares(1, 3, 16, 1, 3, 8);
        Check.due("the last one has what is left", "16 8 0 0", heights(y));
        Check.state("9 of 8", () -> y.share(1, 1, 1, 9));
        Check.due("less than it has", 8, y.share(1, 1, 1, 1));
        Check.due("only the other one's height can change it", 15, y.share(0, 1, 1, 15));
        Check.due("heights", "15 9 0 0", heights(y));
    }

    private static void closedOnes() {
        PaneLayers x = withShares(1, 8, NONE, 1, 8, NONE, 1, 8, NONE);
        Check.due("a closed pane can be set as one likes", 0, x.share(3, 9, 8, 16));
        Check.due("it has no height", 0, x.height(3));
        Check.due("close", 2, x.close(0));
        Check.due("heights", "0 12 12 0", heights(x));
        Check.state("no room for 16", () -> x.open(3));
        Check.due("close", 1, x.close(1));
        Check.due("16 and 8 are 24", 16, x.open(3));
        Check.due("what was set is there", "0 0 8 16", heights(x));
        Check.due("a closed one", 0, x.share(0, 1, 1, NONE));
        Check.state("no room for 1", () -> x.open(0));
        Check.due("close one", 1, x.close(2));
        Check.due("the one that is left has all", "0 0 0 24", heights(x));
        Check.state("and can't be closed", () -> x.close(3));
        Check.state("nor can a closed one", () -> x.close(2));
        Check.state("nor can an open one be opened", () -> x.open(3));
    }

    /** Heights that change move no top and no cursor. */
    private static void heightsChange() {
        PaneLayers x = new PaneLayers();
        for (int line = 1; line < 40; line++) {
            x.breakLine(0, 0);
        }
        x.put(0, 30, 0);
        Check.due("at the last row", "30 0 30 0 0 7", Check.cursor(x, 0));
        x.open(1);
        Check.due("below the last row then", "30 0 30 0 0 7", Check.cursor(x, 0));
        Check.due("a move that goes nowhere leaves the top, too", false, x.move(0, PaneLayers.HOME));
        Check.due("top", 7, x.cursor(0, 5));
        Check.due("a move brings it there", true, x.move(0, PaneLayers.LEFT));
        Check.due("top", "29 0 29 0 0 18", Check.cursor(x, 0));
        x.shape(0, 10, 0, 3);
        Check.due("a shape moves no top either", 18, x.cursor(0, 5));
    }
}
