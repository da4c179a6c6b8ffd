/** Promises 17 to 20: how the clusters of lines are laid in rows. */
final class RowTest {
    public static void main(String[] args) {
        counts();
        words();
        blanks();
        tabs();
        wide();
        cells();
        folded();
        greatest();
        errors();
        Check.end();
    }

    private static void counts() {
        PaneLayers x = Check.withLines("aaaaaaaaaaaaaaaaaaaaa", "", "b");
        Check.due("rows", 4, x.rows(0));
        Check.due("rows of a long line", 2, x.rowsOf(0, 0));
        Check.due("rows of an empty line", 1, x.rowsOf(0, 1));
        Check.due("rows of a line", 1, x.rowsOf(0, 2));
        Check.due("clusters", 20, x.clusters(0, 0));
        Check.due("clusters", 1, x.clusters(0, 1));
        Check.due("clusters of an empty line", 0, x.clusters(0, 2));
        Check.due("clusters", 1, x.clusters(0, 3));
        x.remove(0, 0, 1);
        Check.due("20 signs are one row", 3, x.rows(0));
        x.shape(2, 40, 0, 0);
        Check.due("a closed pane has rows, too", 3, x.rows(2));
    }

    private static void words() {
        PaneLayers x = Check.withLines("hello black again");
        x.shape(0, 10, 2, 0);
        Check.due("by words", "hello |black |again", Check.rows(x, 0));
        Check.due("columns", "0 1 2 3 4 5", Check.cells(x, 0, 0, 2));
        Check.due("columns behind the indent", "2 3 4 5 6 7", Check.cells(x, 0, 1, 2));
        x.remove(0, 7, 8);
        x.shape(0, 10, 0, 0);
        Check.due("what ends at the width", "hello back |again", Check.rows(x, 0));
        Check.due("a blank beyond the width", "1 1 1 1 1 1 1 1 1 1 0", Check.cells(x, 0, 0, 3));
        x.shape(0, 11, 0, 0);
        Check.due("widths", "1 1 1 1 1 1 1 1 1 1 1", Check.cells(x, 0, 0, 3));
        PaneLayers y = Check.withLines("abcdefghijklm");
        y.shape(0, 10, 3, 0);
        Check.due("a long word", "abcdefghij|klm", Check.rows(y, 0));
        y.insert(0, 0, ' ');
        Check.due("behind a blank", " |abcdefg|hijklm", Check.rows(y, 0));
        y.remove(0, 0, 1);
        y.addVirtual(0, 0, 4, ' ');
        Check.due("a virtual blank", "abcd |efghijk|lm", Check.rows(y, 0));
        y.hide(0, 0, 0, 8);
        Check.due("what is hidden takes no room", " ijklm", Check.rows(y, 0));
    }

    private static void blanks() {
        PaneLayers x = Check.withLines("abcdefghij   k l");
        x.shape(0, 10, 1, 0);
        Check.due("blanks follow", "abcdefghij   |k l", Check.rows(x, 0));
        Check.due("widths", "1 1 1 1 1 1 1 1 1 1 0 0 0", Check.cells(x, 0, 0, 3));
        Check.due("columns", "0 1 2 3 4 5 6 7 8 9 10 10 10", Check.cells(x, 0, 0, 2));
        x.remove(0, 13, 16);
        Check.due("nothing is left", 1, x.rows(0));
        PaneLayers y = Check.withLines("abcdefgh  ~ ab");
        y.shape(0, 10, 0, 0);
        Check.due("a blank cluster", "abcdefgh   |ab", Check.rows(y, 0));
        Check.due("its signs", "1 1 1 1 1 1 1 1 1 2 1", Check.cells(y, 0, 0, 1));
        PaneLayers z = Check.withLines("           a");
        z.shape(0, 10, 0, 0);
        Check.due("blanks alone", "           |a", Check.rows(z, 0));
        Check.due("widths", "1 1 1 1 1 1 1 1 1 1 0", Check.cells(z, 0, 0, 3));
    }

    private static void tabs() {
        PaneLayers x = Check.withLines("a\tb\tcdef\tg");
        Check.due("widths", "1 3 1 3 1 1 1 1 4 1", Check.cells(x, 0, 0, 3));
        Check.due("columns", "0 1 4 5 8 9 10 11 12 16", Check.cells(x, 0, 0, 2));
        x.shape(0, 15, 3, 0);
        Check.due("a tab beyond the width", "1 3 1 3 1 1 1 1 0", Check.cells(x, 0, 0, 3));
        Check.due("rows", "a\tb\tcdef\t|g", Check.rows(x, 0));
        x.shape(0, 10, 3, 0);
        Check.due("rows", "a\tb\t|cdef\tg", Check.rows(x, 0));
        Check.due("from the indent", "1 1 1 1 1 1", Check.cells(x, 0, 1, 3));
        PaneLayers y = Check.withLines("abcdefghi\t k");
        y.shape(0, 11, 0, 0);
        Check.due("a blank behind such a tab is as narrow", "1 1 1 1 1 1 1 1 1 0 0", Check.cells(y, 0, 0, 3));
        Check.due("rows", "abcdefghi\t |k", Check.rows(y, 0));
        y.shape(0, 12, 0, 0);
        Check.due("up to the width", "1 1 1 1 1 1 1 1 1 3 0", Check.cells(y, 0, 0, 3));
    }

    private static void wide() {
        PaneLayers x = Check.withLines("ABCDEFG");
        x.shape(0, 11, 4, 0);
        Check.due("rows", "ABCDE|FG", Check.rows(x, 0));
        Check.due("widths", "2 2 2 2 2", Check.cells(x, 0, 0, 3));
        Check.due("columns", "4 6", Check.cells(x, 0, 1, 2));
        PaneLayers y = Check.withLines("aAzZ@[`{09~");
        Check.due("widths", "1 2 2 1 1 1 1 1 1 1", sorted(y));
    }

    private static String sorted(PaneLayers x) {
        StringBuilder told = new StringBuilder();
        for (int place : new int[] {0, 1, 3, 2, 4, 5, 6, 7, 8, 9}) {
            for (int cell = 0; cell < x.clusters(0, 0); cell++) {
                if (x.cell(0, 0, cell, 5) == place) {
                    told.append(told.length() > 0 ? " " : "").append(x.cell(0, 0, cell, 3));
                }
            }
        }
        return told.toString();
    }

    private static void cells() {
        PaneLayers x = Check.withLines("aB~~\tn");
        x.addVirtual(0, 0, 5, 'k');
        String[] due = {"97 66 9 107 110", "1 3 1 1 1", "0 1 3 4 5", "1 2 1 1 1", "0 0 0 0 1", "0 1 4 -1 5"};
        for (int what = 0; what < due.length; what++) {
            Check.due("cell, " + what, due[what], Check.cells(x, 0, 0, what));
        }
        Check.argument("what 6", () -> x.cell(0, 0, 0, 6));
        Check.argument("what -1", () -> x.cell(0, 0, 0, -1));
        Check.range("cell 5", () -> x.cell(0, 0, 5, 6));
        Check.range("cell -1", () -> x.cell(0, 0, -1, 6));
        Check.range("cell of row 1", () -> x.cell(0, 1, 0, 6));
        Check.range("cell of row -1", () -> x.cell(0, -1, 0, 0));
        Check.range("cell of pane 4", () -> x.cell(4, 0, 0, 0));
        Check.range("the last cell of all", () -> x.cell(0, 0, Integer.MAX_VALUE, 0));
    }

    private static void folded() {
        PaneLayers x = Check.withLines("abcdefgh", "b", "c", "d");
        x.shape(0, 10, 2, 0);
        x.addFold(0, 0, 2);
        x.setClosed(0, 0, true);
        Check.due("rows", 3, x.rows(0));
        Check.due("the signs of a fold are laid, too", "abcdefgh..|.|d", Check.rows(x, 0));
        Check.due("rows of the first line", 2, x.rowsOf(0, 0));
        Check.due("rows of an invisible line", 0, x.rowsOf(0, 1));
        Check.due("rows of the last line of the fold", 0, x.rowsOf(0, 2));
        Check.due("rows of the line behind", 1, x.rowsOf(0, 3));
    }

    private static void greatest() {
        PaneLayers x = Check.withLines(" ".repeat(80), "");
        for (int i = 0; i < 6; i++) {
            x.addVirtual(0, 0, 10 * i, Check.virtual("        "));
        }
        x.addFold(0, 0, 1);
        x.setClosed(0, 0, true);
        Check.due("blanks", 128, x.clusters(0, 0));
        Check.due("the signs of the fold", 3, x.clusters(0, 1));
        Check.due("the last blank", 20, x.cell(0, 0, 127, 2));
        Check.due("draw", 24, x.draw(0));
        Check.due("draw again", 0, x.draw(0));
        Check.range("one more", () -> x.cell(0, 0, 128, 0));
        PaneLayers y = Check.withLines("a".repeat(80), "");
        for (int i = 0; i < 6; i++) {
            y.addVirtual(0, 0, 80, Check.virtual("aaaaaaaa"));
        }
        y.shape(0, 10, 4, 0);
        y.addFold(0, 0, 1);
        y.setClosed(0, 0, true);
        Check.due("rows", 22, y.rows(0));
        Check.due("the last row", "46", Check.cells(y, 0, 21, 0));
    }

    private static void errors() {
        PaneLayers x = Check.withLines("a", "b");
        for (int pane : new int[] {-1, 4}) {
            Check.range("rows of pane " + pane, () -> x.rows(pane));
            Check.range("rows of a line in pane " + pane, () -> x.rowsOf(pane, 0));
            Check.range("clusters in pane " + pane, () -> x.clusters(pane, 0));
        }
        for (int one : new int[] {-1, 2, Integer.MAX_VALUE, Integer.MIN_VALUE}) {
            Check.range("rows of line " + one, () -> x.rowsOf(0, one));
            Check.range("clusters in row " + one, () -> x.clusters(0, one));
        }
    }
}
