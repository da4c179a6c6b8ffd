/** The section "Places and screen", with promises 21 to 26: ahead of, at and behind the edges of clusters, rows and parts. */
final class ScreenEdgeTest {
    private static final int BEFORE = PaneLayers.BEFORE;
    private static final int BEHIND = PaneLayers.BEHIND;
    private static final int NONE = PaneLayers.NONE;

    public static void main(String[] args) {
        downInClusters();
        downInDirections();
        downBetweenRows();
        downAtHiddenOnes();
        downAtVirtualOnes();
        downWithoutText();
        downInFolds();
        linesOfRows();
        upInARow();
        upBesideARow();
        upInDirections();
        upToVirtualOnes();
        marks();
        parts();
        whatIsCounted();
        Check.end();
    }

    /** Row and column down from all places of a line of the pane 0, with both sides. */
    private static void down(String what, PaneLayers x, int line, String before, String behind) {
        String[] due = {before, behind};
        for (int side = BEFORE; side <= BEHIND; side++) {
            StringBuilder told = new StringBuilder();
            for (int place = 0; place <= x.length(line); place++) {
                told.append(place > 0 ? " " : "").append(x.rowAt(0, line, place, side));
                told.append(".").append(x.columnAt(0, line, place, side));
            }
            Check.due(what + (side == BEFORE ? ": before" : ": behind"), due[side], told.toString());
        }
    }

    private static void downInClusters() {
        down("one sign", Check.withLines("a"), 0, "0.0 0.1", "0.0 0.1");
        down("no sign", Check.withLines(""), 0, "0.0", "0.0");
        down("signs of a cluster", Check.withLines("ab~~c"), 0, "0.0 0.1 0.2 0.2 0.2 0.3", "0.0 0.1 0.1 0.1 0.2 0.3");
        down("a cluster at the beginning", Check.withLines("~~a"), 0, "0.0 0.1 0.1 0.2", "0.0 0.0 0.1 0.2");
        down("a cluster at the end", Check.withLines("a~~"), 0, "0.0 0.1 0.1 0.1", "0.0 0.0 0.0 0.1");
        down("a wide one and a tab", Check.withLines("A\tb"), 0, "0.0 0.2 0.4 0.5", "0.0 0.2 0.4 0.5");
    }

    private static void downInDirections() {
        down("right ones", Check.withLines("no"), 0, "0.2 0.1 0.0", "0.2 0.1 0.0");
        down("a wide one", Check.withLines("nOp"), 0, "0.4 0.3 0.1 0.0", "0.4 0.3 0.1 0.0");
        down("digits", Check.withLines("n12"), 0, "0.3 0.0 0.1 0.2", "0.3 0.2 0.1 0.2");
        down("left, right, left", Check.withLines("anob"), 0, "0.0 0.3 0.2 0.3 0.4", "0.0 0.1 0.2 0.1 0.4");
        down("right, left, right", Check.withLines("nabo"), 0, "0.4 0.1 0.2 0.1 0.0", "0.4 0.3 0.2 0.3 0.0");
    }

    private static void downBetweenRows() {
        PaneLayers x = Check.withLines("k", "abcdefghij kl");
        x.shape(0, 10, 3, 0);
        down("a narrow blank at the end of a row", x, 1,
            "1.0 1.1 1.2 1.3 1.4 1.5 1.6 1.7 1.8 1.9 1.10 2.3 2.4 2.5",
            "1.0 1.1 1.2 1.3 1.4 1.5 1.6 1.7 1.8 1.9 1.10 1.10 2.4 2.5");
        PaneLayers y = Check.withLines("abcdefghijkl");
        y.shape(0, 10, 3, 0);
        Check.due("before, the place between two rows is the next one", 1, y.rowAt(0, 0, 10, BEFORE));
        Check.due("at its first column", 3, y.columnAt(0, 0, 10, BEFORE));
        Check.due("behind, it is the last one", 0, y.rowAt(0, 0, 10, BEHIND));
        Check.due("at its end", 10, y.columnAt(0, 0, 10, BEHIND));
        Check.due("the end of the line is in the last row", 1, y.rowAt(0, 0, 12, BEFORE));
        Check.due("with both sides", 1, y.rowAt(0, 0, 12, BEHIND));
        y.hide(0, 0, 10, 12);
        Check.due("or in the last row with a cluster that is shown", 0, y.rowAt(0, 0, 12, BEFORE));
        y.addVirtual(0, 0, 12, Check.virtual("kkk"));
        Check.due("of the text", 0, y.rowAt(0, 0, 12, BEHIND));
        Check.due("behind it", 10, y.columnAt(0, 0, 12, BEFORE));
    }

    private static void downAtHiddenOnes() {
        PaneLayers x = Check.withLines("abcd");
        x.hide(0, 0, 0, 2);
        down("the first two", x, 0, "0.0 0.0 0.0 0.1 0.2", "0.0 0.0 0.0 0.1 0.2");
        PaneLayers y = Check.withLines("abcd");
        y.hide(0, 0, 2, 4);
        down("the last two", y, 0, "0.0 0.1 0.2 0.2 0.2", "0.0 0.1 0.2 0.2 0.2");
        PaneLayers z = Check.withLines("abcd");
        z.hide(0, 0, 1, 3);
        down("the two in the middle", z, 0, "0.0 0.1 0.1 0.1 0.2", "0.0 0.1 0.1 0.1 0.2");
        PaneLayers w = Check.withLines("anob");
        w.hide(0, 0, 1, 2);
        down("a right one", w, 0, "0.0 0.2 0.2 0.2 0.3", "0.0 0.1 0.1 0.1 0.3");
    }

    private static void downAtVirtualOnes() {
        PaneLayers x = Check.withLines("ab");
        x.addVirtual(0, 0, 0, 'k');
        x.addVirtual(0, 0, 1, 'l');
        x.addVirtual(0, 0, 2, 'm');
        Check.due("row", "kalbm", Check.rows(x, 0));
        down("virtual ones are passed over", x, 0, "0.1 0.3 0.4", "0.1 0.2 0.4");
        PaneLayers y = Check.withLines("a");
        y.shape(0, 10, 2, 0);
        y.addVirtual(0, 0, 0, Check.virtual("kkkkkkkk"));
        y.addVirtual(0, 0, 0, Check.virtual("kkkkkkkk"));
        down("the row is that of the cluster", y, 0, "1.8 1.9", "1.8 1.9");
    }

    private static void downWithoutText() {
        PaneLayers x = Check.withLines("k", "ab", "c");
        x.hide(0, 1, 0, 2);
        down("a row without clusters", x, 1, "1.0 1.0 1.0", "1.0 1.0 1.0");
        x.shape(0, 10, 3, 0);
        x.addVirtual(0, 1, 1, Check.virtual("nnnnnnnn"));
        x.addVirtual(0, 1, 1, Check.virtual("nnnnnnnn"));
        Check.due("rows", 4, x.rows(0));
        down("the first column of the first row", x, 1, "1.0 1.0 1.0", "1.0 1.0 1.0");
    }

    private static void downInFolds() {
        PaneLayers x = Check.withLines("ab", "cd", "ef", "g");
        x.addFold(0, 1, 2);
        x.setClosed(0, 0, true);
        down("an invisible line", x, 2, "-1.-1 -1.-1 -1.-1", "-1.-1 -1.-1 -1.-1");
        down("the first line of the fold", x, 1, "1.0 1.1 1.2", "1.0 1.1 1.2");
        down("the line behind", x, 3, "2.0 2.1", "2.0 2.1");
        Check.due("in another pane", 2, x.rowAt(1, 2, 0, BEFORE));
        x.setClosed(0, 0, false);
        down("the fold is open", x, 2, "2.0 2.1 2.2", "2.0 2.1 2.2");
        Check.due("NONE", -1, NONE);
    }

    private static void linesOfRows() {
        PaneLayers x = Check.withLines("a".repeat(20), "b".repeat(21), "", "c", "d");
        x.addFold(0, 2, 3);
        x.setClosed(0, 0, true);
        int[] due = {0, 1, 1, 2, 4};
        for (int row = 0; row < due.length; row++) {
            Check.due("the line of the row " + row, due[row], x.lineAt(0, row));
        }
        Check.range("there is no row 5", () -> x.lineAt(0, 5));
    }

    /** The places up from the columns of a row, from one to another, the last one included. */
    private static String up(PaneLayers x, int row, int from, int to) {
        StringBuilder told = new StringBuilder();
        for (int column = from; column <= to; column++) {
            told.append(column > from ? " " : "").append(x.placeAt(0, row, column));
        }
        return told.toString();
    }

    private static void upInARow() {
        PaneLayers x = Check.withLines("aB\tC~d");
        Check.due("columns", "0 1 3 4 6", Check.cells(x, 0, 0, 2));
        Check.due("from its column to its column and width", "0 1 1 2 3 3 5", up(x, 0, 0, 6));
        Check.due("behind all", "5 5", x.placeAt(0, 0, 7) + " " + x.placeAt(0, 0, 39));
    }

    private static void upBesideARow() {
        PaneLayers x = Check.withLines("", "abcdefghij \tkl");
        x.shape(0, 10, 4, 0);
        Check.due("rows", "|abcdefghij \t|kl", Check.rows(x, 0));
        Check.due("a row without clusters", "0 0", x.placeAt(0, 0, 0) + " " + x.placeAt(0, 0, 39));
        Check.due("the last one that has a width", "8 9 9 9", up(x, 1, 8, 11));
        Check.due("left of all clusters the first one", "12 12 12 12 12 13 13", up(x, 2, 0, 6));
        PaneLayers y = Check.withLines("ab");
        y.hide(0, 0, 0, 2);
        Check.due("without clusters, the end of the line", "2 2 2", up(y, 0, 0, 2));
    }

    private static void upInDirections() {
        PaneLayers x = Check.withLines("nOp");
        Check.due("the order on the screen", "pOn", Check.rows(x, 0));
        Check.due("right ones", "2 1 1 0 0 0", up(x, 0, 0, 5));
        PaneLayers y = Check.withLines("nnnnnnnnnnnnnnnnnn  n");
        y.shape(0, 10, 2, 0);
        Check.due("the row 1", "  nnnnnnnn", Check.rows(y, 0).split("\\|")[1]);
        Check.due("columns", "2 2 2 3 4 5 6 7 8 9", Check.cells(y, 0, 1, 2));
        Check.due("left of all the first one on the screen, which has no width", "19 19", up(y, 1, 0, 1));
        Check.due("at its column one that has a width", "17 16", up(y, 1, 2, 3));
        Check.due("behind all the last one", "11 10 10 10", up(y, 1, 8, 11));
    }

    private static void upToVirtualOnes() {
        PaneLayers x = Check.withLines("ab~~c", "d");
        x.addVirtual(0, 0, 0, 'k');
        x.addVirtual(0, 0, 2, Check.virtual("lm"));
        x.addVirtual(0, 0, 3, 'K');
        x.addVirtual(0, 0, 5, 'i');
        x.addFold(0, 0, 1);
        x.setClosed(0, 0, true);
        Check.due("row", "kablmKci...", Check.rows(x, 0));
        Check.due("the places of virtual texts, also in a cluster, and the end for a fold",
            "0 0 1 2 2 3 3 4 5 5 5 5 5", up(x, 0, 0, 12));
        x.hide(0, 0, 0, 5);
        for (int i = 0; i < 4; i++) {
            x.dropVirtual(0, 0);
        }
        Check.due("the signs of a fold alone", "5 5 5 5", up(x, 0, 0, 3));
    }

    private static String marks(PaneLayers x, int pane) {
        StringBuilder told = new StringBuilder();
        for (int row = 0; row < x.rows(pane); row++) {
            told.append(x.marksAt(pane, row));
        }
        return told.toString();
    }

    private static void marks() {
        PaneLayers x = Check.withLines("a".repeat(21), "b".repeat(10), "c", "d", "e");
        Check.due("none", "000000", marks(x, 0));
        for (int line = 0; line < 5; line++) {
            x.setMark(line, true);
        }
        Check.due("only the first row of a line", "101111", marks(x, 0));
        x.addFold(0, 1, 3);
        Check.due("an open fold changes nothing", "101111", marks(x, 0));
        x.setClosed(0, 0, true);
        Check.due("its line and the others of a closed fold", "1031", marks(x, 0));
        Check.due("not in another pane", "101111", marks(x, 1));
        x.setMark(1, false);
        Check.due("the others alone", "1021", marks(x, 0));
        x.setMark(3, false);
        Check.due("up to its last line", "1011", marks(x, 0));
        x.setMark(3, true);
        x.addFold(0, 1, 2);
        x.setClosed(0, 1, true);
        Check.due("two folds from one line: each line once", "1021", marks(x, 0));
        x.addFold(0, 2, 4);
        x.setClosed(0, 2, true);
        Check.due("not the lines of a fold that begins inside", "102", marks(x, 0));
        x.addFold(0, 0, 1);
        x.setClosed(0, 3, true);
        Check.due("nor those of one that begins in its last line", "10", marks(x, 0).substring(0, 2));
        Check.due("all other lines are invisible", 2, x.rows(0));
        x.shape(0, 10, 0, 0);
        Check.due("the other rows of the line stand for none", "100", marks(x, 0));
    }

    private static String parts(PaneLayers x) {
        StringBuilder told = new StringBuilder();
        for (int part = 0; part < 8; part++) {
            told.append(x.minimap(0, part));
        }
        return told.toString();
    }

    private static void parts() {
        String[] due = {"00000001", "00010001", "00100101", "01010101", "01011011", "01110111", "01111111", "11111111",
            "11111112", "11121112", "11211212", "12121212"};
        PaneLayers x = Check.withLines("a");
        for (int rows = 1; rows <= due.length; rows++) {
            Check.due("parts of " + rows + " rows", due[rows - 1], parts(x));
            x.breakLine(rows - 1, 1);
            x.insert(rows, 0, 'a');
        }
        PaneLayers y = new PaneLayers();
        for (int line = 1; line < 60; line++) {
            y.breakLine(0, 0);
        }
        Check.due("rows without clusters", "00000000", parts(y));
        for (int line = 0; line < 60; line++) {
            y.insert(line, 0, 'a');
        }
        Check.due("60 rows", "78787878", parts(y));
    }

    private static void whatIsCounted() {
        PaneLayers x = Check.withLines("abcdefghij \t", "k");
        x.shape(0, 10, 0, 0);
        Check.due("not those without a width", 10, x.minimap(0, 3));
        Check.due("the next row", 1, x.minimap(0, 7));
        x.remove(0, 9, 10);
        Check.due("a blank that has one", 10, x.minimap(0, 3));
        x.addVirtual(0, 1, 0, Check.virtual("AB"));
        Check.due("virtual ones, and wide ones once", 3, x.minimap(0, 7));
        x.hide(0, 1, 0, 1);
        Check.due("not hidden ones", 2, x.minimap(0, 7));
        x.addFold(0, 0, 1);
        x.setClosed(0, 0, true);
        Check.due("rows", "abcdefghi \t|...", Check.rows(x, 0));
        Check.due("the signs of a fold", 3, x.minimap(0, 7));
    }
}
