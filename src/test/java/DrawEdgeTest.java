/** Promises 38 and 39: what makes a row another one, which shift is taken of several, and where shifts end. */
final class DrawEdgeTest {
    public static void main(String[] args) {
        firstTime();
        signs();
        columns();
        widths();
        levels();
        numbersOfClusters();
        marks();
        whatIsNotCompared();
        rowsBehindTheLast();
        marksOfRowsThatAreGone();
        fewestOfShifts();
        nearestOfShifts();
        greatestShifts();
        otherHeights();
        lastDrawn();
        panesByThemselves();
        Check.end();
    }

    private static void due(PaneLayers x, String what, int due, int shift) {
        Check.due("draw: " + what, due, x.draw(0));
        Check.due("shift: " + what, shift, x.shift(0));
    }

    /** Lets the pane 0 have a height. */
    private static PaneLayers low(PaneLayers x, int height) {
        x.share(0, 1, 1, height);
        x.open(1);
        return x;
    }

    private static void firstTime() {
        for (int height : new int[] {1, 2, 16}) {
            PaneLayers x = low(Check.withLines("a"), height);
            Check.due("nothing was drawn: shift", 0, x.shift(0));
            due(x, "all rows, also those behind the last one", height, 0);
            due(x, "none", 0, 0);
        }
    }

    private static void signs() {
        PaneLayers x = Check.withLines("ab", "cd", "ef");
        due(x, "first", 24, 0);
        x.remove(1, 1, 2);
        x.insert(1, 1, 'e');
        due(x, "another sign", 1, 0);
        x.insert(2, 2, '~');
        due(x, "one more sign in a cluster", 1, 0);
        x.insert(2, 2, '~');
        due(x, "two more", 1, 0);
        x.remove(2, 3, 4);
        due(x, "one less", 1, 0);
        x.insert(0, 1, '~');
        x.remove(0, 1, 2);
        due(x, "none in the end", 0, 0);
        PaneLayers y = Check.withLines("k");
        due(y, "first", 24, 0);
        for (int signs = 2; signs <= 80; signs++) {
            y.insert(0, 1, '~');
            due(y, "a cluster of " + signs + " signs", 1, 0);
        }
    }

    private static void columns() {
        PaneLayers x = Check.withLines("abcdefghijk");
        x.shape(0, 10, 0, 0);
        due(x, "first", 24, 0);
        x.shape(0, 10, 1, 0);
        due(x, "another column in the second row", 1, 0);
        x.shape(0, 10, 4, 0);
        due(x, "one more", 1, 0);
        x.shape(0, 10, 4, 3);
        due(x, "the margin is not drawn", 0, 0);
        x.shape(0, 10, 0, 0);
        due(x, "back", 1, 0);
        PaneLayers y = Check.withLines("abcdefghijk" + "~".repeat(63));
        y.shape(0, 10, 0, 0);
        due(y, "first", 24, 0);
        for (int indent = 1; indent <= 4; indent++) {
            y.shape(0, 10, indent, 0);
            due(y, "a cluster of many signs at the column " + indent, 1, 0);
        }
    }

    private static void widths() {
        PaneLayers x = Check.withLines("abcdefghij k", "k", "k");
        x.shape(0, 10, 0, 0);
        Check.due("widths", "1 1 1 1 1 1 1 1 1 1 0", Check.cells(x, 0, 0, 3));
        due(x, "first", 24, 0);
        x.shape(0, 11, 0, 0);
        Check.due("widths", "1 1 1 1 1 1 1 1 1 1 1", Check.cells(x, 0, 0, 3));
        due(x, "the width of the last blank alone", 1, 0);
        for (int width = 10; width < 40; width++) {
            PaneLayers z = low(Check.withLines("a".repeat(width) + " k"), 1);
            z.shape(0, width, 0, 0);
            due(z, "first", 1, 0);
            z.shape(0, width + 1, 0, 0);
            due(z, "the width of a blank at the column " + width, 1, 0);
        }
        PaneLayers y = Check.withLines("a\tb", "k");
        due(y, "first", 24, 0);
        y.remove(0, 1, 2);
        y.addVirtual(0, 0, 1, Check.virtual("   "));
        due(y, "three blanks for a tab", 1, 0);
    }

    private static void levels() {
        PaneLayers x = low(Check.withLines("..........", "k"), 1);
        x.shape(0, 10, 0, 0);
        due(x, "first", 1, 0);
        x.insert(0, 10, 'a');
        Check.due("levels", "0 0 0 0 0 0 0 0 0 0", Check.cells(x, 0, 0, 4));
        due(x, "a left one in the next row", 0, 0);
        x.insert(0, 10, 'n');
        Check.due("levels", "1 1 1 1 1 1 1 1 1 1", Check.cells(x, 0, 0, 4));
        due(x, "a right one in the next row: other levels alone", 1, 0);
        PaneLayers z = low(Check.withLines("\t\t\t\t\t"), 1);
        due(z, "first", 1, 0);
        z.insert(0, 5, 'n');
        Check.due("levels", "1 1 1 1 1", Check.cells(z, 0, 0, 4));
        Check.due("widths", "4 4 4 4 4", Check.cells(z, 0, 0, 3));
        due(z, "levels of tabs", 1, 0);
        PaneLayers y = low(Check.withLines("a<1.......>n"), 1);
        y.shape(0, 11, 0, 0);
        Check.due("levels", "0 0 2 2 2 2 2 2 2 2 0", Check.cells(y, 0, 0, 4));
        due(y, "first", 1, 0);
        y.addVirtual(0, 0, 10, Check.virtual("<<1>>"));
        Check.due("levels", "0 0 2 2 2 2 2 2 2 2 2", Check.cells(y, 0, 0, 4));
        due(y, "another cluster, too", 1, 0);
    }

    private static void numbersOfClusters() {
        PaneLayers x = Check.withLines("ab", "k");
        due(x, "first", 24, 0);
        x.insert(0, 2, 'c');
        due(x, "one more at the end", 1, 0);
        x.remove(0, 2, 3);
        due(x, "one less at the end", 1, 0);
        x.remove(0, 0, 2);
        due(x, "none", 1, 0);
        x.insert(0, 0, 'b');
        due(x, "one", 1, 0);
        x.insert(0, 1, ' ');
        due(x, "a blank", 1, 0);
    }

    private static void marks() {
        PaneLayers x = Check.withLines("a", "b", "c", "d");
        due(x, "first", 24, 0);
        x.setMark(1, true);
        due(x, "a mark", 1, 0);
        x.setMark(1, true);
        due(x, "the same mark", 0, 0);
        x.addFold(0, 1, 3);
        x.setClosed(0, 0, true);
        due(x, "a fold", 3, 0);
        x.setMark(2, true);
        due(x, "one more mark that it stands for", 1, 0);
        x.setMark(3, true);
        due(x, "two more", 1, 0);
        x.setMark(1, false);
        due(x, "one less", 1, 0);
        x.setMark(1, true);
        x.setMark(2, false);
        due(x, "as many", 0, 0);
        x.setMark(1, false);
        x.setMark(3, false);
        due(x, "none", 1, 0);
    }

    private static void whatIsNotCompared() {
        PaneLayers x = Check.withLines("abc", "abc");
        due(x, "first", 24, 0);
        x.hide(0, 0, 1, 2);
        x.addVirtual(0, 0, 1, 'b');
        due(x, "a virtual one for one of the text", 0, 0);
        x.insert(0, 0, 'a');
        x.remove(0, 1, 2);
        due(x, "the same signs at the same places", 0, 0);
        x.insert(0, 0, 'k');
        x.hide(0, 0, 0, 1);
        due(x, "other places", 0, 0);
        x.put(0, 1, 2);
        x.open(1);
        due(x, "cursors and other panes", 0, 0);
        x.join(0);
        x.breakLine(0, 4);
        due(x, "lines that were joined and broken", 0, 0);
    }

    private static void rowsBehindTheLast() {
        PaneLayers x = Check.withLines("a");
        due(x, "first", 24, 0);
        x.breakLine(0, 1);
        due(x, "an empty row is none of them", 1, 0);
        x.join(0);
        due(x, "nor are they empty rows", 1, 0);
        x.insert(0, 0, 'b');
        due(x, "they are the same among themselves", 1, 0);
        PaneLayers y = Check.withLines("", "", "");
        due(y, "first", 24, 0);
        y.scroll(0, 2);
        due(y, "the last row is the first one", 2, 0);
        y.scroll(0, -2);
        due(y, "back", 2, 0);
        PaneLayers z = low(Check.withLines("a", "b", "c"), 3);
        due(z, "first", 3, 0);
        z.scroll(0, 2);
        due(z, "two rows behind the last one", 2, 2);
        z.scroll(0, -1);
        due(z, "one of them, and one row ahead", 1, -1);
    }

    /** A row behind the last one stands for no marks, whatever was drawn there. */
    private static void marksOfRowsThatAreGone() {
        PaneLayers x = Check.withLines("a", "b", "c");
        x.setMark(1, true);
        x.setMark(2, true);
        due(x, "first", 24, 0);
        x.join(1);
        x.join(0);
        due(x, "two rows are gone", 3, 0);
        due(x, "the same", 0, 0);
        due(x, "the same again", 0, 0);
        x.breakLine(0, 3);
        due(x, "a row without clusters", 1, 0);
    }

    /** The lines of one sign each are put in the place of those that there are. */
    private static void become(PaneLayers x, String signs) {
        for (int line = 0; line < signs.length(); line++) {
            x.remove(line, 0, 1);
            x.insert(line, 0, signs.charAt(line));
        }
    }

    /** What is drawn of rows of one sign each, when they become others. */
    private static void drawn(String first, String then, int due, int shift) {
        PaneLayers x = Check.withLines(first.split(""));
        low(x, first.length());
        Check.due("first", first.length(), x.draw(0));
        become(x, then);
        due(x, first + " becomes " + then, due, shift);
    }

    private static void fewestOfShifts() {
        drawn("abcd", "abcd", 0, 0);
        drawn("abcd", "abce", 1, 0);
        drawn("abcd", "bcde", 1, 1);
        drawn("abcd", "eabc", 1, -1);
        drawn("abcd", "cdef", 2, 2);
        drawn("abcd", "efab", 2, -2);
        drawn("abcd", "defg", 3, 3);
        drawn("abcd", "efga", 3, -3);
        drawn("abcdef", "cdefab", 2, 2);
        drawn("abcdef", "efabcd", 2, -2);
        drawn("abcdef", "abcfde", 3, 0);
        drawn("abcdef", "bcdaef", 3, 1);
    }

    private static void nearestOfShifts() {
        drawn("abcd", "efgh", 4, 0);
        drawn("aaaa", "aaaa", 0, 0);
        drawn("abab", "baba", 1, 1);
        drawn("abc", "cax", 2, -1);
        drawn("abc", "bxa", 2, 1);
        drawn("abc", "bax", 2, 1);
        drawn("abc", "xcb", 2, 1);
        drawn("abcd", "bxxd", 3, 0);
        drawn("abcd", "cxxa", 3, 2);
        drawn("abcde", "cxaxx", 4, 2);
        drawn("abcde", "xxaxx", 4, -2);
        drawn("aabb", "bbaa", 2, 2);
        drawn("abba", "baab", 2, 1);
    }

    private static void greatestShifts() {
        PaneLayers x = new PaneLayers();
        for (int line = 0; line < 50; line++) {
            if (line > 0) {
                x.breakLine(line - 1, 2);
            }
            x.insert(line, 0, 'a' + line % 10);
            x.insert(line, 1, 'a' + line / 10);
        }
        due(x, "first", 24, 0);
        x.scroll(0, 23);
        due(x, "the last row is the first one", 23, 23);
        x.scroll(0, -23);
        due(x, "and back", 23, -23);
        x.scroll(0, 24);
        due(x, "nothing is left", 24, 0);
        x.scroll(0, -24);
        due(x, "nothing", 24, 0);
        x.scroll(0, 12);
        due(x, "half", 12, 12);
    }

    private static void otherHeights() {
        PaneLayers x = low(Check.withLines("a", "b", "c", "d", "e", "f"), 6);
        due(x, "first", 6, 0);
        x.share(0, 1, 1, 2);
        due(x, "fewer rows", 0, 0);
        x.share(0, 1, 1, 4);
        due(x, "rows beyond those that were drawn", 2, 0);
        x.scroll(0, 3);
        x.share(0, 1, 1, 1);
        due(x, "one row, as far as the height was", 0, 3);
        x.scroll(0, -3);
        x.share(0, 1, 1, 4);
        due(x, "four, of which the last one was drawn", 3, -3);
        x.share(0, 1, 1, 1);
        x.scroll(0, 2);
        due(x, "the third one", 0, 2);
        PaneLayers y = Check.withLines("a".repeat(24).split(""));
        become(y, "bcdefghijklabcdefghijklm");
        due(y, "first", 24, 0);
        y.share(0, 1, 1, 1);
        y.open(1);
        y.scroll(0, 23);
        due(y, "the last one of 24", 0, 23);
        y.scroll(0, -23);
        y.close(1);
        due(y, "of 24 the last one", 23, -23);
    }

    private static void lastDrawn() {
        PaneLayers x = low(Check.withLines("a", "b", "c"), 3);
        due(x, "first", 3, 0);
        become(x, "bca");
        due(x, "one shift", 1, 1);
        due(x, "the same", 0, 0);
        become(x, "abc");
        due(x, "only what was drawn last counts", 1, -1);
        become(x, "abd");
        become(x, "abc");
        due(x, "not what was never drawn", 0, 0);
        Check.due("shift answers without drawing", 0, x.shift(0));
        x.remove(1, 0, 1);
        Check.due("also after edits", 0, x.shift(0));
        due(x, "one row", 1, 0);
    }

    private static void panesByThemselves() {
        PaneLayers x = low(Check.withLines("a", "b", "c", "d"), 3);
        due(x, "first", 3, 0);
        x.scroll(0, 1);
        due(x, "a shift", 1, 1);
        Check.due("another pane", 21, x.draw(1));
        Check.due("its shift", 0, x.shift(1));
        Check.due("that of the first one", 1, x.shift(0));
        x.close(0);
        Check.state("a closed pane is not drawn", () -> x.draw(0));
        Check.due("its shift is kept", 1, x.shift(0));
        x.insert(2, 0, 'k');
        x.open(0);
        Check.due("height", 3, x.height(0));
        due(x, "what it had when it was closed", 1, 0);
        Check.due("the other one", 1, x.draw(1));
    }
}
