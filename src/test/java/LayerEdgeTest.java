/** The section "Panes and layers", with promises 10 to 16, at the places just ahead of, at and behind its borders. */
final class LayerEdgeTest {
    private static final int NONE = PaneLayers.NONE;

    public static void main(String[] args) {
        shapes();
        hiddenClusters();
        numbersOfSpans();
        virtualPlaces();
        virtualOrder();
        virtualSigns();
        numbersOfVirtuals();
        invisibleLines();
        signsOfFolds();
        numbersOfFolds();
        panesByThemselves();
        Check.end();
    }

    private static void shapes() {
        PaneLayers x = Check.withLines("a".repeat(41));
        x.shape(0, 40, 4, 3);
        Check.due("width 40", 40, x.clusters(0, 0));
        Check.due("indent 4", 4, x.cell(0, 1, 0, 2));
        x.shape(0, 39, 0, 0);
        Check.due("width 39", 39, x.clusters(0, 0));
        Check.due("indent 0", 0, x.cell(0, 1, 0, 2));
        x.shape(0, 10, 4, 0);
        Check.due("width 10", 10, x.clusters(0, 0));
        Check.due("10 without 4", 6, x.clusters(0, 1));
        Check.due("rows", 7, x.rows(0));
        x.shape(0, 10, 0, 0);
        Check.due("rows", 5, x.rows(0));
    }

    /** The rows of a line with a cluster of three signs, when a span is hidden. */
    private static void hidden(int from, int to, String due) {
        PaneLayers x = Check.withLines("ab~~cd");
        x.hide(0, 0, from, to);
        Check.due("hidden from " + from + " to " + to, due, Check.rows(x, 0));
    }

    private static void hiddenClusters() {
        hidden(0, 1, "bcd");
        hidden(0, 2, "cd");
        hidden(1, 2, "acd");
        hidden(1, 4, "acd");
        hidden(1, 5, "ad");
        hidden(2, 3, "abcd");
        hidden(2, 4, "abcd");
        hidden(3, 4, "abcd");
        hidden(3, 5, "abd");
        hidden(4, 5, "abd");
        hidden(5, 6, "abc");
        hidden(0, 6, "");
        PaneLayers x = Check.withLines("~~a", "b");
        x.hide(0, 0, 0, 1);
        Check.due("~ at the beginning", "a|b", Check.rows(x, 0));
        x.hide(0, 0, 2, 3);
        Check.due("a line without clusters", "|b", Check.rows(x, 0));
        Check.due("has one row", 1, x.rowsOf(0, 0));
        Check.due("without any", 0, x.clusters(0, 0));
    }

    private static void numbersOfSpans() {
        PaneLayers x = Check.withLines("abcdef");
        Check.due("the span 0", 1, x.hide(0, 0, 4, 5));
        Check.due("the span 1", 2, x.hide(0, 0, 0, 1));
        Check.due("the span 2", 3, x.hide(0, 0, 2, 3));
        Check.due("in the order in which they were hidden", 2, x.show(0, 0));
        Check.due("the span 0 is shown", "bdef", Check.rows(x, 0));
        Check.due("the last one is 1 then", 1, x.show(0, 1));
        Check.due("rows", "bcdef", Check.rows(x, 0));
        Check.range("there is no span 1 any more", () -> x.show(0, 1));
        Check.due("show the last one", 0, x.show(0, 0));
        Check.range("there is no span 0 any more", () -> x.show(0, 0));
        Check.due("rows", "abcdef", Check.rows(x, 0));
        x.hide(0, 0, 1, 4);
        x.hide(0, 0, 2, 6);
        x.show(0, 0);
        Check.due("what is in another span stays hidden", "ab", Check.rows(x, 0));
        PaneLayers y = Check.withLines("a".repeat(21));
        y.hide(0, 0, 0, 1);
        Check.due("rows with a span", 1, y.rows(0));
        y.show(0, 0);
        Check.due("rows without it", 2, y.rows(0));
    }

    /** Where a virtual text stands that is at a place of a line with a cluster of three signs. */
    private static void virtualAt(int place, String due, String dueIfHidden) {
        PaneLayers x = Check.withLines("ab~~cd");
        x.addVirtual(0, 0, place, '!');
        Check.due("at " + place, due, Check.rows(x, 0));
        x.hide(0, 0, 1, 5);
        Check.due("at " + place + ", with hidden ones", dueIfHidden, Check.rows(x, 0));
        int column = dueIfHidden.indexOf('!');
        Check.due("up from it", place, x.placeAt(0, 0, column));
    }

    private static void virtualPlaces() {
        virtualAt(0, "!abcd", "!ad");
        virtualAt(1, "a!bcd", "a!d");
        virtualAt(2, "ab!cd", "a!d");
        virtualAt(3, "ab!cd", "a!d");
        virtualAt(4, "ab!cd", "a!d");
        virtualAt(5, "abc!d", "a!d");
        virtualAt(6, "abcd!", "ad!");
        PaneLayers x = Check.withLines("~~", "");
        x.addVirtual(0, 0, 0, 'a');
        x.addVirtual(0, 0, 1, 'b');
        x.addVirtual(0, 0, 2, 'c');
        x.addVirtual(0, 1, 0, 'd');
        Check.due("at the beginning, in a cluster, at the end, in an empty line", "a~bc|d", Check.rows(x, 0));
    }

    private static void virtualOrder() {
        PaneLayers x = Check.withLines("ab~~cd");
        x.addVirtual(0, 0, 4, '1');
        x.addVirtual(0, 0, 2, '2');
        x.addVirtual(0, 0, 3, '3');
        x.addVirtual(0, 0, 1, '4');
        x.addVirtual(0, 0, 5, '5');
        Check.due("those at the same cluster by rising numbers", "a4b123c5d", Check.rows(x, 0));
        x.hide(0, 0, 4, 5);
        Check.due("at a hidden one still ahead of the next one", "a4b1235d", Check.rows(x, 0));
        x.hide(0, 0, 1, 2);
        Check.due("and behind the one ahead", "a41235d", Check.rows(x, 0));
        x.dropVirtual(0, 1);
        x.addVirtual(0, 0, 2, '2');
        Check.due("a new one has the last number", "a41325d", Check.rows(x, 0));
    }

    private static void virtualSigns() {
        PaneLayers x = Check.withLines("");
        Check.due("one sign", 1, x.addVirtual(0, 0, 0, ' '));
        Check.due("the lowest one first", 2, x.addVirtual(0, 0, 0, 'a' | 'b' << 8 | 'm' << 16));
        Check.due("seven", 3, x.addVirtual(0, 0, 0, Check.virtual("1234567")));
        Check.due("eight", 4, x.addVirtual(0, 0, 0, Check.virtual("abcdefg}")));
        Check.due("row", " abm1234567abcdefg}", Check.rows(x, 0));
        for (int cell = 0; cell < 19; cell++) {
            Check.due("each is a cluster of one sign", 1, x.cell(0, 0, cell, 1));
            Check.due("of no place", NONE, x.cell(0, 0, cell, 5));
        }
        x.addVirtual(0, 0, 0, 'Z');
        Check.due("A to Z are wide there, too", 2, x.rows(0));
    }

    private static void numbersOfVirtuals() {
        PaneLayers x = Check.withLines("a".repeat(20));
        Check.due("rows without any", 1, x.rows(0));
        x.addVirtual(0, 0, 20, '1');
        Check.due("rows with one", 2, x.rows(0));
        x.addVirtual(0, 0, 20, '2');
        x.addVirtual(0, 0, 20, '3');
        Check.due("drop the first one", 2, x.dropVirtual(0, 0));
        Check.due("those behind it get numbers 1 less", 1, x.dropVirtual(0, 1));
        Check.due("the one that is left", "aaaaaaaaaaaaaaaaaaaa|2", Check.rows(x, 0));
        Check.argument("there is no 1 any more", () -> x.dropVirtual(0, 1));
        Check.due("drop the last one", 0, x.dropVirtual(0, 0));
        Check.due("rows without any", 1, x.rows(0));
        Check.argument("there is no 0 any more", () -> x.dropVirtual(0, 0));
    }

    /** The rows of six lines when folds, each given by its first and its last line, are closed. */
    private static void folded(String due, int... folds) {
        PaneLayers x = Check.withLines("a", "b", "c", "d", "e", "f");
        for (int i = 0; i + 1 < folds.length; i += 2) {
            x.addFold(0, folds[i], folds[i + 1]);
            Check.due("a new fold is open", false, x.setClosed(0, i / 2, true));
        }
        Check.due("with " + java.util.Arrays.toString(folds), due, Check.rows(x, 0));
        for (int i = 0; i + 1 < folds.length; i += 2) {
            Check.due("it was closed", true, x.setClosed(0, i / 2, false));
        }
        Check.due("all are open again", "a|b|c|d|e|f", Check.rows(x, 0));
    }

    private static void invisibleLines() {
        folded("a|b|c|d|e|f");
        folded("a...|c|d|e|f", 0, 1);
        folded("a|b...|e|f", 1, 3);
        folded("a|b|c|d|e...", 4, 5);
        folded("a...", 0, 5);
        folded("a...|c...|e...", 0, 1, 2, 3, 4, 5);
        folded("a...|d|e|f", 0, 2, 1, 2);
        folded("a...|f", 0, 2, 2, 4);
        folded("a...|f", 2, 4, 0, 2);
        folded("a...|e|f", 0, 1, 1, 3);
        folded("a...|d...|f", 0, 2, 3, 4);
        folded("a|b...|f", 1, 3, 2, 4);
        folded("a...", 0, 5, 1, 4, 2, 3);
    }

    private static void signsOfFolds() {
        folded("a|b...|d|e|f", 1, 2, 1, 2);
        folded("a|b...|f", 1, 2, 1, 4, 1, 3);
        PaneLayers x = Check.withLines("ab", "c", "d");
        x.addFold(0, 0, 1);
        Check.due("an open fold has no signs", "ab|c|d", Check.rows(x, 0));
        x.setClosed(0, 0, true);
        x.addVirtual(0, 0, 2, Check.virtual("km"));
        Check.due("behind all else", "abkm...|d", Check.rows(x, 0));
        Check.due("their first signs", "97 98 107 109 46 46 46", Check.cells(x, 0, 0, 0));
        Check.due("each of one sign", "1 1 1 1 1 1 1", Check.cells(x, 0, 0, 1));
        Check.due("columns", "0 1 2 3 4 5 6", Check.cells(x, 0, 0, 2));
        Check.due("widths", "1 1 1 1 1 1 1", Check.cells(x, 0, 0, 3));
        Check.due("they are virtual", "0 1 -1 -1 -1 -1 -1", Check.cells(x, 0, 0, 5));
        x.hide(0, 0, 0, 2);
        x.dropVirtual(0, 0);
        Check.due("also if all else is hidden", "...|d", Check.rows(x, 0));
        PaneLayers y = Check.withLines("no", "c");
        y.addFold(0, 0, 1);
        y.setClosed(0, 0, true);
        Check.due("they are neutral: they stand on the left in a line with the base 1", "...on", Check.rows(y, 0));
    }

    private static void numbersOfFolds() {
        PaneLayers x = Check.withLines("a", "b", "c", "d");
        Check.due("the fold 0", 1, x.addFold(0, 2, 3));
        Check.due("the fold 1", 2, x.addFold(0, 0, 1));
        Check.due("close the fold 1", false, x.setClosed(0, 1, true));
        Check.due("rows", "a...|c|d", Check.rows(x, 0));
        Check.due("it was closed", true, x.setClosed(0, 1, true));
        Check.due("the other one was not", false, x.setClosed(0, 0, false));
        x.join(2);
        Check.argument("there is no fold 1 any more", () -> x.setClosed(0, 1, true) ? 1 : 0);
        Check.due("the one behind it gets a number 1 less", true, x.setClosed(0, 0, false));
        Check.due("rows", "a|b|cd", Check.rows(x, 0));
        Check.due("a fold of all lines", 2, x.addFold(0, 0, 2));
        Check.due("the same once more", 3, x.addFold(0, 0, 2));
    }

    private static void panesByThemselves() {
        PaneLayers x = Check.withLines("abc", "d");
        x.shape(1, 10, 4, 3);
        x.hide(1, 0, 0, 1);
        x.addVirtual(1, 0, 1, 'k');
        x.addFold(1, 0, 1);
        x.setClosed(1, 0, true);
        Check.due("the layers of the pane 1", "kbc...", Check.rows(x, 1));
        for (int pane : new int[] {0, 2, 3}) {
            Check.due("are not those of " + pane, "abc|d", Check.rows(x, pane));
        }
        x.open(1);
        Check.due("opened", "kbc...", Check.rows(x, 1));
        x.close(1);
        Check.due("closed again", "kbc...", Check.rows(x, 1));
    }
}
