/** The section "Rows", with promises 17 to 20: clusters that end just ahead of, at and behind the width. */
final class RowEdgeTest {
    public static void main(String[] args) {
        upToTheWidth();
        wideOnes();
        tabs();
        tabsBehindAnIndent();
        narrowBlanks();
        whereRowsBreak();
        firstRows();
        linesWithoutClusters();
        numbersOfRows();
        whatIsTold();
        Check.end();
    }

    /** The rows of a line in a pane of a width and with an indent, and the widths of the clusters of its first row. */
    private static void laid(String line, int width, int indent, String rows, String widths) {
        PaneLayers x = Check.withLines(line);
        x.shape(0, width, indent, 0);
        String what = "[" + line.replace('\t', '_') + "] with " + width + " and " + indent;
        Check.due(what + ": rows", rows, Check.rows(x, 0));
        Check.due(what + ": widths", widths, Check.cells(x, 0, 0, 3));
    }

    private static void upToTheWidth() {
        laid("abcdefghi", 10, 0, "abcdefghi", "1 1 1 1 1 1 1 1 1");
        laid("abcdefghij", 10, 0, "abcdefghij", "1 1 1 1 1 1 1 1 1 1");
        laid("abcdefghijk", 10, 0, "abcdefghij|k", "1 1 1 1 1 1 1 1 1 1");
        laid("abcdefghijk", 11, 0, "abcdefghijk", "1 1 1 1 1 1 1 1 1 1 1");
        laid("a~b~~c", 10, 0, "abc", "1 1 1");
        laid("a~b~c~d~e~f~g~h~i~j~", 10, 0, "abcdefghij", "1 1 1 1 1 1 1 1 1 1");
        PaneLayers x = Check.withLines("a".repeat(80));
        x.shape(0, 40, 0, 0);
        Check.due("80 in 40 columns", 2, x.rows(0));
        x.shape(0, 40, 1, 0);
        Check.due("with an indent", 3, x.rows(0));
        Check.due("the second row", 39, x.clusters(0, 1));
        Check.due("the third row", 1, x.clusters(0, 2));
        x.shape(0, 10, 4, 0);
        Check.due("10, then 6 each", 13, x.rows(0));
        Check.due("the last row", 4, x.clusters(0, 12));
    }

    private static void wideOnes() {
        laid("abcdefghA", 10, 0, "abcdefghA", "1 1 1 1 1 1 1 1 2");
        laid("abcdefghiA", 10, 0, "abcdefghi|A", "1 1 1 1 1 1 1 1 1");
        laid("abcdefghiA", 11, 0, "abcdefghiA", "1 1 1 1 1 1 1 1 1 2");
        laid("abcdefghiAb", 11, 0, "abcdefghiA|b", "1 1 1 1 1 1 1 1 1 2");
        laid("ABCDE", 10, 0, "ABCDE", "2 2 2 2 2");
        laid("ABCDEF", 10, 3, "ABCDE|F", "2 2 2 2 2");
        laid("ABCDEFGHI", 10, 3, "ABCDE|FGH|I", "2 2 2 2 2");
        laid("A~M~", 10, 0, "AM", "2 2");
        laid("aAmM@[`{", 10, 0, "aAmM@[`{", "1 2 1 2 1 1 1 1");
        laid("Nn", 10, 0, "nN", "1 2");
        laid("Zz", 10, 0, "zZ", "1 2");
    }

    private static void tabs() {
        laid("\t", 10, 0, "\t", "4");
        laid("\ta", 10, 0, "\ta", "4 1");
        laid("a\tb", 10, 0, "a\tb", "1 3 1");
        laid("ab\tc", 10, 0, "ab\tc", "1 1 2 1");
        laid("abc\td", 10, 0, "abc\td", "1 1 1 1 1");
        laid("abcd\te", 10, 0, "abcd\te", "1 1 1 1 4 1");
        laid("A\tb", 10, 0, "A\tb", "2 2 1");
        laid("a\t\tb", 10, 0, "a\t\tb", "1 3 4 1");
        laid("\t~\t", 10, 0, "\t\t", "4 4");
        laid("abcdefghi\tk", 12, 0, "abcdefghi\t|k", "1 1 1 1 1 1 1 1 1 3");
        laid("abcdefghi\tk", 13, 0, "abcdefghi\tk", "1 1 1 1 1 1 1 1 1 3 1");
        laid("abcdefghi\tk", 11, 0, "abcdefghi\t|k", "1 1 1 1 1 1 1 1 1 0");
        laid("abcdefghi\tk", 10, 0, "abcdefghi\t|k", "1 1 1 1 1 1 1 1 1 0");
        laid("\t\t\tk", 10, 0, "\t\t\t|k", "4 4 0");
    }

    private static void tabsBehindAnIndent() {
        for (int indent = 0; indent <= 4; indent++) {
            PaneLayers x = Check.withLines("abcdefghijk\tl");
            x.shape(0, 10, indent, 0);
            int width = 4 - (indent + 1) % 4;
            Check.due("a sign and a tab from the column " + indent, "1 " + width + " 1", Check.cells(x, 0, 1, 3));
            Check.due("columns", indent + " " + (indent + 1) + " " + (indent + 1 + width), Check.cells(x, 0, 1, 2));
        }
    }

    private static void narrowBlanks() {
        laid("abcdefghij ", 10, 0, "abcdefghij ", "1 1 1 1 1 1 1 1 1 1 0");
        laid("abcdefghij k", 10, 0, "abcdefghij |k", "1 1 1 1 1 1 1 1 1 1 0");
        laid("abcdefghi  k", 10, 0, "abcdefghi  |k", "1 1 1 1 1 1 1 1 1 1 0");
        laid("abcdefghij \t k", 10, 0, "abcdefghij \t |k", "1 1 1 1 1 1 1 1 1 1 0 0 0");
        laid("abcdefghij\t k", 10, 0, "abcdefghij\t |k", "1 1 1 1 1 1 1 1 1 1 0 0");
        laid("abcdefghi\t k", 10, 0, "abcdefghi\t |k", "1 1 1 1 1 1 1 1 1 0 0");
        laid("abcdefghij ~k", 10, 0, "abcdefghij |k", "1 1 1 1 1 1 1 1 1 1 0");
        laid("abcdefghiA  k", 10, 0, "abcdefghi|A  k", "1 1 1 1 1 1 1 1 1");
        laid("          ", 10, 0, "          ", "1 1 1 1 1 1 1 1 1 1");
        laid("            ", 10, 0, "            ", "1 1 1 1 1 1 1 1 1 1 0 0");
        laid("            k", 10, 0, "            |k", "1 1 1 1 1 1 1 1 1 1 0 0");
        laid("abc~      ~~   k  m", 10, 0, "abc         |k  m", "1 1 1 1 1 1 1 1 1 1 0 0");
        PaneLayers x = Check.withLines("abcdefghijk");
        x.shape(0, 10, 0, 0);
        x.addVirtual(0, 0, 10, Check.virtual("  "));
        Check.due("virtual blanks are laid so, too", "abcdefghij  |k", Check.rows(x, 0));
        Check.due("widths", "1 1 1 1 1 1 1 1 1 1 0 0", Check.cells(x, 0, 0, 3));
        Check.due("columns", "0 1 2 3 4 5 6 7 8 9 10 10", Check.cells(x, 0, 0, 2));
        x.hide(0, 0, 0, 1);
        Check.due("a hidden one makes room for one", "bcdefghij  |k", Check.rows(x, 0));
        Check.due("widths", "1 1 1 1 1 1 1 1 1 1 0", Check.cells(x, 0, 0, 3));
    }

    private static void whereRowsBreak() {
        laid("abcdefgh k", 10, 0, "abcdefgh k", "1 1 1 1 1 1 1 1 1 1");
        laid("abcdefghi k", 10, 0, "abcdefghi |k", "1 1 1 1 1 1 1 1 1 1");
        laid("abcdefgh kl", 10, 0, "abcdefgh |kl", "1 1 1 1 1 1 1 1 1");
        laid("a bcdefghij", 10, 0, "a |bcdefghij", "1 1");
        laid("a\tbcdefghij", 10, 0, "a\t|bcdefghij", "1 3");
        laid("a b\tc defghijk", 10, 0, "a b\tc |defghijk", "1 1 1 1 1 1");
        laid("a b cdefghijk", 10, 0, "a b |cdefghijk", "1 1 1 1");
        laid(" abcdefghijk", 10, 0, " |abcdefghij|k", "1");
        laid("ab cdefghijklmabcdef", 10, 0, "ab |cdefghijkl|mabcdef", "1 1 1");
        laid("ab cdefghij kl", 10, 4, "ab |cdefgh|ij kl", "1 1 1");
        laid("ab cdefgh ij kl", 10, 4, "ab cdefgh |ij kl", "1 1 1 1 1 1 1 1 1 1");
        laid("a b c d e f g h", 10, 4, "a b c d e |f g h", "1 1 1 1 1 1 1 1 1 1");
        laid("a-b.c,defghijk", 10, 0, "a-b.c,defg|hijk", "1 1 1 1 1 1 1 1 1 1");
        PaneLayers x = Check.withLines("a bcdefghijk");
        x.shape(0, 10, 0, 0);
        x.hide(0, 0, 1, 2);
        Check.due("a hidden blank is none", "abcdefghij|k", Check.rows(x, 0));
        x.addVirtual(0, 0, 5, ' ');
        Check.due("a virtual one is one", "abcd |efghijk", Check.rows(x, 0));
    }

    private static void firstRows() {
        PaneLayers x = Check.withLines("abcdefghijk", "abcdefghijk", "");
        x.shape(0, 10, 3, 0);
        int[] due = {0, 3, 0, 3};
        for (int row = 0; row < due.length; row++) {
            Check.due("the column at which the row " + row + " begins", due[row], x.cell(0, row, 0, 2));
        }
        Check.due("rows", 5, x.rows(0));
    }

    private static void linesWithoutClusters() {
        PaneLayers x = Check.withLines("", "ab", "");
        x.hide(0, 1, 0, 2);
        Check.due("rows", 3, x.rows(0));
        for (int line = 0; line < 3; line++) {
            Check.due("one row", 1, x.rowsOf(0, line));
            Check.due("without any", 0, x.clusters(0, line));
        }
        x.addVirtual(0, 1, 1, 'k');
        Check.due("a virtual one is one", 1, x.clusters(0, 1));
    }

    private static void numbersOfRows() {
        PaneLayers x = Check.withLines("a".repeat(21), "b", "c".repeat(40), "d");
        Check.due("rows of a line that needs two", 2, x.rowsOf(0, 0));
        Check.due("rows of a line of twice the width", 2, x.rowsOf(0, 2));
        Check.due("rows of all lines", 6, x.rows(0));
        x.addFold(0, 1, 2);
        x.setClosed(0, 0, true);
        Check.due("rows of an invisible line", 0, x.rowsOf(0, 2));
        Check.due("rows of all visible lines", 4, x.rows(0));
        Check.due("they are numbered one behind another", 3, x.lineAt(0, 3));
        Check.range("the last one is 3", () -> x.lineAt(0, 4));
        x.addFold(0, 0, 3);
        x.setClosed(0, 1, true);
        Check.due("the line 0 alone", 2, x.rows(0));
        Check.due("with the signs of the fold", 4, x.clusters(0, 1));
        Check.due("rows of the first line of an invisible fold", 0, x.rowsOf(0, 1));
    }

    private static void whatIsTold() {
        PaneLayers x = Check.withLines("b~~A\tn~");
        x.addVirtual(0, 0, 1, 'k');
        Check.due("first signs", "98 107 65 9 110", Check.cells(x, 0, 0, 0));
        Check.due("how many signs", "3 1 1 1 2", Check.cells(x, 0, 0, 1));
        Check.due("columns", "0 1 2 4 8", Check.cells(x, 0, 0, 2));
        Check.due("widths", "1 1 2 4 1", Check.cells(x, 0, 0, 3));
        Check.due("levels", "0 0 0 0 1", Check.cells(x, 0, 0, 4));
        Check.due("places", "0 -1 3 4 5", Check.cells(x, 0, 0, 5));
        PaneLayers y = Check.withLines("no");
        Check.due("0 is the first one on the screen", 'o', y.cell(0, 0, 0, 0));
        Check.due("its place", 1, y.cell(0, 0, 0, 5));
        Check.due("its column", 0, y.cell(0, 0, 0, 2));
    }
}
