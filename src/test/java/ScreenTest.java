/** Promises 21 to 26: places down to the screen and up again, marks at the side and the minimap. */
final class ScreenTest {
    private static final int BEFORE = PaneLayers.BEFORE;
    private static final int BEHIND = PaneLayers.BEHIND;
    private static final int NONE = PaneLayers.NONE;

    public static void main(String[] args) {
        downInRows();
        downInDirections();
        downWithLayers();
        downErrors();
        lines();
        up();
        upWithLayers();
        marks();
        minimap();
        Check.end();
    }

    /** The rows and columns of all places of a line with a side, as row.column. */
    private static String down(PaneLayers x, int line, int side) {
        StringBuilder told = new StringBuilder();
        for (int place = 0; place <= x.length(line); place++) {
            told.append(place > 0 ? " " : "").append(x.rowAt(0, line, place, side)).append(".");
            told.append(x.columnAt(0, line, place, side));
        }
        return told.toString();
    }

    /** The places up from the first columns of a row. */
    private static String up(PaneLayers x, int row, int columns) {
        StringBuilder told = new StringBuilder();
        for (int column = 0; column < columns; column++) {
            told.append(column > 0 ? " " : "").append(x.placeAt(0, row, column));
        }
        return told.toString();
    }

    private static void downInRows() {
        PaneLayers x = Check.withLines("a", "abcdefg k lm", "");
        x.shape(0, 10, 2, 0);
        Check.due("rows", "a|abcdefg k |lm|", Check.rows(x, 0));
        Check.due("before", "1.0 1.1 1.2 1.3 1.4 1.5 1.6 1.7 1.8 1.9 2.2 2.3 2.4", down(x, 1, BEFORE));
        Check.due("behind", "1.0 1.1 1.2 1.3 1.4 1.5 1.6 1.7 1.8 1.9 1.10 2.3 2.4", down(x, 1, BEHIND));
        Check.due("before, in an empty line", "3.0", down(x, 2, BEFORE));
        Check.due("behind, in an empty line", "3.0", down(x, 2, BEHIND));
        Check.due("in a closed pane", 11, x.columnAt(1, 1, 11, BEFORE));
    }

    private static void downInDirections() {
        PaneLayers x = Check.withLines("abno");
        Check.due("screen", "abon", Check.rows(x, 0));
        Check.due("before", "0.0 0.1 0.4 0.3 0.2", down(x, 0, BEFORE));
        Check.due("behind", "0.0 0.1 0.2 0.3 0.2", down(x, 0, BEHIND));
        PaneLayers y = Check.withLines("nAo~");
        Check.due("screen", "oAn", Check.rows(y, 0));
        Check.due("before", "0.4 0.1 0.1 0.0 0.0", down(y, 0, BEFORE));
        Check.due("behind", "0.4 0.3 0.3 0.3 0.0", down(y, 0, BEHIND));
    }

    private static void downWithLayers() {
        PaneLayers x = Check.withLines("ab~cd");
        x.addVirtual(0, 0, 3, Check.virtual("kl"));
        Check.due("rows", "abklcd", Check.rows(x, 0));
        Check.due("before, over a virtual text", "0.0 0.1 0.4 0.4 0.5 0.6", down(x, 0, BEFORE));
        Check.due("behind, ahead of a virtual text", "0.0 0.1 0.1 0.2 0.5 0.6", down(x, 0, BEHIND));
        x.hide(0, 0, 3, 5);
        Check.due("before, at hidden ones", "0.0 0.1 0.2 0.2 0.2 0.2", down(x, 0, BEFORE));
        Check.due("behind, at hidden ones", "0.0 0.1 0.1 0.2 0.2 0.2", down(x, 0, BEHIND));
        x.show(0, 0);
        x.hide(0, 0, 0, 3);
        Check.due("behind, with nothing ahead", "0.2 0.2 0.2 0.2 0.3 0.4", down(x, 0, BEHIND));
        x.hide(0, 0, 3, 5);
        Check.due("rows without the text", "kl", Check.rows(x, 0));
        Check.due("before, without the text", "0.0 0.0 0.0 0.0 0.0 0.0", down(x, 0, BEFORE));
        Check.due("behind, without the text", "0.0 0.0 0.0 0.0 0.0 0.0", down(x, 0, BEHIND));
        PaneLayers y = Check.withLines("a", "b", "c", "d");
        y.addFold(0, 1, 2);
        y.setClosed(0, 0, true);
        Check.due("row of an invisible line", NONE, y.rowAt(0, 2, 0, BEFORE));
        Check.due("column of an invisible line", NONE, y.columnAt(0, 2, 1, BEHIND));
        Check.due("row behind a fold", 2, y.rowAt(0, 3, 0, BEFORE));
        Check.due("row in another pane", 2, y.rowAt(1, 2, 0, BEFORE));
        Check.due("end of the text of a fold", "1.0 1.1", down(y, 1, BEFORE));
        PaneLayers z = Check.withLines("b");
        z.shape(0, 10, 3, 0);
        z.addVirtual(0, 0, 0, Check.virtual("aaaaaaaa"));
        z.addVirtual(0, 0, 0, Check.virtual("aaaaaaaa"));
        z.hide(0, 0, 0, 1);
        Check.due("rows", "aaaaaaaaaa|aaaaaa", Check.rows(z, 0));
        Check.due("the first column of the first row", "0.0 0.0", down(z, 0, BEHIND));
    }

    private static void downErrors() {
        PaneLayers x = Check.withLines("ab", "c", "d");
        x.addFold(0, 0, 1);
        x.setClosed(0, 0, true);
        for (int pane : new int[] {-1, 4}) {
            Check.range("row in pane " + pane, () -> x.rowAt(pane, 0, -1, 2));
            Check.range("column in pane " + pane, () -> x.columnAt(pane, 0, -1, 2));
        }
        for (int line : new int[] {-1, 3}) {
            Check.range("row of line " + line, () -> x.rowAt(0, line, -1, 2));
            Check.range("column of line " + line, () -> x.columnAt(0, line, -1, 2));
        }
        for (int line = 0; line < 2; line++) {
            int its = line;
            Check.argument("row of place -1", () -> x.rowAt(0, its, -1, BEFORE));
            Check.argument("row behind the end", () -> x.rowAt(0, its, 3 - its, BEFORE));
            Check.argument("row, side 2", () -> x.rowAt(0, its, 0, 2));
            Check.argument("row, side -1", () -> x.rowAt(0, its, 0, -1));
            Check.argument("column of place -1", () -> x.columnAt(0, its, -1, BEHIND));
            Check.argument("column behind the end", () -> x.columnAt(0, its, 3 - its, BEHIND));
            Check.argument("column, side 2", () -> x.columnAt(0, its, 0, 2));
            Check.argument("column, side -1", () -> x.columnAt(0, its, 0, -1));
        }
    }

    private static void lines() {
        PaneLayers x = Check.withLines("aaaaaaaaaaaa", "", "b", "c", "d");
        x.shape(0, 10, 0, 0);
        x.addFold(0, 1, 3);
        x.setClosed(0, 0, true);
        int[] due = {0, 0, 1, 4};
        for (int row = 0; row < due.length; row++) {
            Check.due("line of row " + row, due[row], x.lineAt(0, row));
        }
        for (int row : new int[] {-1, 4, Integer.MAX_VALUE}) {
            Check.range("line of row " + row, () -> x.lineAt(0, row));
        }
        Check.due("line in another pane", 4, x.lineAt(1, 4));
        Check.range("line in pane 4", () -> x.lineAt(4, 0));
        Check.range("line in pane -1", () -> x.lineAt(-1, 0));
    }

    private static void up() {
        PaneLayers x = Check.withLines("aB\tc", "", "abcdefghij  k", "abno");
        x.shape(0, 10, 3, 0);
        Check.due("rows", "aB\tc||abcdefghij  |k|abon", Check.rows(x, 0));
        Check.due("a wide one and a tab", "0 1 1 2 3 3", up(x, 0, 6));
        Check.due("an empty row", "0 0", up(x, 1, 2));
        Check.due("behind narrow blanks", "7 8 9 9 9", up(x, 2, 12).substring(14));
        Check.due("far behind", 9, x.placeAt(0, 2, 39));
        Check.due("ahead of the indent", "12 12 12 12 12", up(x, 3, 5));
        Check.due("both directions", "0 1 3 2 2 2", up(x, 4, 6));
        Check.argument("column -1", () -> x.placeAt(0, 0, -1));
        Check.argument("column 40", () -> x.placeAt(0, 0, 40));
        Check.range("row 5", () -> x.placeAt(0, 5, -1));
        Check.range("row -1", () -> x.placeAt(0, -1, 0));
        Check.range("pane 4", () -> x.placeAt(4, 0, 40));
        PaneLayers y = Check.withLines("nopqrstuvwx yz");
        y.shape(0, 10, 2, 0);
        Check.due("rows", "wvutsrqpon|zy x", Check.rows(y, 0));
        Check.due("left of all, the first one on the screen", "13 13 13 12 11 10 10", up(y, 1, 7));
    }

    private static void upWithLayers() {
        PaneLayers x = Check.withLines("ab~c", "d", "e");
        x.addVirtual(0, 0, 2, Check.virtual("kl"));
        x.addFold(0, 0, 1);
        x.setClosed(0, 0, true);
        Check.due("rows", "abklc...|e", Check.rows(x, 0));
        Check.due("places", "0 1 2 2 3 4 4 4 4", up(x, 0, 9));
        x.hide(0, 0, 0, 4);
        Check.due("without the text", "2 2 4 4 4 4", up(x, 0, 6));
        x.setClosed(0, 0, false);
        x.dropVirtual(0, 0);
        Check.due("rows", "|d|e", Check.rows(x, 0));
        Check.due("a row without clusters", "4 4", up(x, 0, 2));
    }

    private static void marks() {
        PaneLayers x = Check.withLines("aaaaaaaaaaaa", "b", "c", "d", "e", "f");
        x.shape(0, 10, 0, 0);
        for (int line : new int[] {0, 2, 3, 5}) {
            x.setMark(line, true);
        }
        Check.due("marks", "1001101", marks(x));
        x.addFold(0, 0, 2);
        x.addFold(0, 0, 3);
        Check.due("open folds", "1001101", marks(x));
        x.setClosed(0, 0, true);
        Check.due("a closed fold, at the first row of its line", "20101", marks(x));
        x.setClosed(0, 1, true);
        Check.due("two closed folds", "3001", marks(x));
        x.setClosed(0, 0, false);
        Check.due("the greater one", "3001", marks(x));
        x.addFold(0, 3, 5);
        x.setClosed(0, 2, true);
        Check.due("not those of a fold inside", "30", marks(x));
        Check.due("another pane", 1, x.marksAt(1, 0));
        Check.range("row 2", () -> x.marksAt(0, 2));
        Check.range("row -1", () -> x.marksAt(0, -1));
        Check.range("pane 4", () -> x.marksAt(4, 0));
        Check.range("pane -1", () -> x.marksAt(-1, 0));
    }

    private static String marks(PaneLayers x) {
        StringBuilder told = new StringBuilder();
        for (int row = 0; row < x.rows(0); row++) {
            told.append(x.marksAt(0, row));
        }
        return told.toString();
    }

    private static String minimap(PaneLayers x) {
        StringBuilder told = new StringBuilder();
        for (int part = 0; part < 8; part++) {
            told.append(part > 0 ? " " : "").append(x.minimap(0, part));
        }
        return told.toString();
    }

    private static void minimap() {
        PaneLayers x = Check.withLines("a", "bb", "ccc", "dddd", "eeeee", "ffffff", "ggggggg", "hhhhhhhh", "iiiiiiiii", "");
        Check.due("10 rows", "1 2 3 9 6 7 8 9", minimap(x));
        x.addVirtual(0, 9, 0, Check.virtual("kkk"));
        Check.due("with a virtual text", "1 2 3 9 6 7 8 12", minimap(x));
        Check.due("another pane", 9, x.minimap(1, 7));
        PaneLayers y = Check.withLines("abcdefghij  k");
        y.shape(0, 10, 0, 0);
        Check.due("2 rows", "0 0 0 10 0 0 0 1", minimap(y));
        Check.argument("part -1", () -> y.minimap(0, -1));
        Check.argument("part 8", () -> y.minimap(0, 8));
        Check.range("pane 4", () -> y.minimap(4, 8));
        Check.range("pane -1", () -> y.minimap(-1, 0));
    }
}
