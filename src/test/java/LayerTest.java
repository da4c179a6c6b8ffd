/** Promises 10 to 16: the shape of a pane and its layers. */
final class LayerTest {
    public static void main(String[] args) {
        shape();
        hide();
        hiddenClusters();
        spansAndEdits();
        show();
        addVirtual();
        virtualOrder();
        virtualsAndEdits();
        dropVirtual();
        addFold();
        setClosed();
        foldsAndEdits();
        Check.end();
    }

    private static void shape() {
        PaneLayers x = Check.withLines("aaaaaaaaaaaaaaaaaaaaaaaaa");
        Check.due("rows at first", 2, x.rows(0));
        x.shape(0, 10, 4, 3);
        Check.due("rows with 10, 6 and 6", 4, x.rows(0));
        Check.due("indent", 4, x.cell(0, 1, 0, 2));
        Check.due("rows of another pane", 2, x.rows(1));
        x.shape(3, 40, 0, 0);
        Check.due("rows with 40", 1, x.rows(3));
        for (int pane : new int[] {-1, 4}) {
            Check.range("shape of pane " + pane, () -> shaped(x, pane, 0, -1, 9));
        }
        Check.argument("width 9", () -> shaped(x, 0, 9, 0, 0));
        Check.argument("width 41", () -> shaped(x, 0, 41, 0, 0));
        Check.argument("indent -1", () -> shaped(x, 0, 10, -1, 0));
        Check.argument("indent 5", () -> shaped(x, 0, 10, 5, 0));
        Check.argument("margin -1", () -> shaped(x, 0, 10, 0, -1));
        Check.argument("margin 4", () -> shaped(x, 0, 10, 0, 4));
        Check.due("rows as before", 4, x.rows(0));
    }

    private static int shaped(PaneLayers x, int pane, int width, int indent, int margin) {
        x.shape(pane, width, indent, margin);
        return 0;
    }

    private static void hide() {
        PaneLayers x = Check.withLines("abcdef", "");
        Check.due("hide", 1, x.hide(0, 0, 1, 3));
        Check.due("rows", "adef|", Check.rows(x, 0));
        Check.due("rows of another pane", "abcdef|", Check.rows(x, 1));
        Check.due("hide what is hidden", 2, x.hide(0, 0, 2, 4));
        Check.due("rows", "aef|", Check.rows(x, 0));
        Check.argument("hide nothing", () -> x.hide(0, 0, 2, 2));
        Check.argument("hide from -1", () -> x.hide(0, 0, -1, 2));
        Check.argument("hide to 7", () -> x.hide(0, 0, 0, 7));
        Check.argument("hide to 0", () -> x.hide(0, 0, 0, 0));
        Check.argument("hide in an empty line", () -> x.hide(0, 1, 0, 1));
        Check.range("hide in no line", () -> x.hide(0, 2, 0, 0));
        Check.range("hide in line -1", () -> x.hide(0, -1, 0, 1));
        Check.range("hide in pane 4", () -> x.hide(4, 0, 0, 0));
        Check.range("hide in pane -1", () -> x.hide(-1, 0, 0, 1));
        for (int spans = 3; spans <= 6; spans++) {
            Check.due("hide", spans, x.hide(0, 0, 5, 6));
        }
        Check.state("hide a 7th", () -> x.hide(0, 0, 0, 1));
        Check.argument("hide nothing as a 7th", () -> x.hide(0, 0, 1, 1));
        Check.range("hide a 7th in no line", () -> x.hide(0, 2, 0, 1));
        Check.due("hide in another pane", 1, x.hide(1, 0, 0, 1));
        Check.due("rows", "ae|", Check.rows(x, 0));
    }

    private static void hiddenClusters() {
        PaneLayers x = Check.withLines("~~a~~b");
        Check.due("clusters", "~ab", Check.rows(x, 0));
        x.hide(0, 0, 3, 5);
        x.hide(0, 0, 1, 2);
        Check.due("the first sign is not hidden", "~ab", Check.rows(x, 0));
        x.hide(0, 0, 2, 3);
        Check.due("the first sign is hidden", "~b", Check.rows(x, 0));
        x.hide(1, 0, 0, 1);
        x.hide(1, 0, 5, 6);
        Check.due("a cluster at the beginning", "a", Check.rows(x, 1));
        Check.due("its signs", 3, x.cell(1, 0, 0, 1));
    }

    private static void spansAndEdits() {
        PaneLayers x = Check.withLines("abcdef");
        x.hide(0, 0, 1, 3);
        x.insert(0, 1, 'G');
        Check.due("a sign where a span begins", "aGdef", Check.rows(x, 0));
        x.insert(0, 4, 'H');
        Check.due("a sign where a span ends", "aGHdef", Check.rows(x, 0));
        x.insert(0, 3, 'I');
        Check.due("a sign in a span", "aGHdef", Check.rows(x, 0));
        Check.due("tekt", "aGbIcHdef", Check.text(x));
        x.remove(0, 0, 3);
        Check.due("the first sign of a span goes", "Hdef", Check.rows(x, 0));
        x.insert(0, 0, 'b');
        Check.due("the span goes on", "bHdef", Check.rows(x, 0));
        x.breakLine(0, 2);
        Check.due("a span ends at a break", "b|cHdef", Check.rows(x, 0));
        x.join(0);
        Check.due("and does not grow again", "bcHdef", Check.rows(x, 0));
        x.breakLine(0, 1);
        Check.due("a span that begins at a break goes", "b|cHdef", Check.rows(x, 0));
        x.insert(0, 0, 'a');
        x.join(0);
        Check.due("and comes back", "abcHdef", Check.rows(x, 0));
        x.insert(0, 0, 'm');
        x.breakLine(0, 0);
        x.breakLine(0, 0);
        Check.due("and goes with its line", "||mabcHdef", Check.rows(x, 0));
        x.remove(2, 3, 5);
        Check.due("a span that is empty is gone", 1, x.hide(0, 2, 0, 1));
        x.hide(0, 2, 1, 3);
        x.hide(0, 2, 4, 6);
        x.remove(2, 0, 4);
        Check.due("two of three spans are gone", 2, x.hide(0, 2, 0, 1));
        Check.due("tekt", "||def", Check.text(x));
        Check.due("rows", "||f", rowsBut(x));
    }

    /** The rows of pane 0 when its last span is shown again. */
    private static String rowsBut(PaneLayers x) {
        x.show(0, 1);
        return Check.rows(x, 0).replace("d", "");
    }

    private static void show() {
        PaneLayers x = Check.withLines("abcdef");
        x.hide(0, 0, 0, 1);
        x.hide(0, 0, 1, 2);
        x.hide(0, 0, 2, 3);
        Check.due("rows", "def", Check.rows(x, 0));
        Check.due("show", 2, x.show(0, 1));
        Check.due("rows", "bdef", Check.rows(x, 0));
        Check.due("show what was behind it", 1, x.show(0, 1));
        Check.due("rows", "bcdef", Check.rows(x, 0));
        Check.range("show span 1", () -> x.show(0, 1));
        Check.range("show span -1", () -> x.show(0, -1));
        Check.range("show in pane 4", () -> x.show(4, 0));
        Check.range("show in pane 1", () -> x.show(1, 0));
        Check.due("show the last one", 0, x.show(0, 0));
        Check.due("rows", "abcdef", Check.rows(x, 0));
    }

    private static void addVirtual() {
        PaneLayers x = Check.withLines("ab", "");
        Check.due("add", 1, x.addVirtual(0, 0, 1, Check.virtual("kI")));
        Check.due("rows", "akIb|", Check.rows(x, 0));
        Check.due("columns", "0 1 2 4", Check.cells(x, 0, 0, 2));
        Check.due("widths", "1 1 2 1", Check.cells(x, 0, 0, 3));
        Check.due("places", "0 -1 -1 1", Check.cells(x, 0, 0, 5));
        Check.due("signs", "1 1 1 1", Check.cells(x, 0, 0, 1));
        Check.due("add 8", 2, x.addVirtual(0, 1, 0, Check.virtual(" }123456")));
        Check.due("rows", "akIb| }123456", Check.rows(x, 0));
        Check.due("rows of another pane", "ab|", Check.rows(x, 1));
        Check.argument("none", () -> x.addVirtual(0, 0, 0, 0));
        Check.argument("a first 0", () -> x.addVirtual(0, 0, 0, 65L << 8));
        Check.argument("one behind a 0", () -> x.addVirtual(0, 0, 0, 65L | 65L << 16));
        Check.argument("the last one behind a 0", () -> x.addVirtual(0, 0, 0, 65L | 65L << 56));
        for (long sign : new long[] {9, 31, 126, 127, 128, 255}) {
            Check.argument("sign " + sign, () -> x.addVirtual(0, 0, 0, sign));
            Check.argument("sign " + sign + " as the last", () -> x.addVirtual(0, 0, 0, 0x41414141414141L | sign << 56));
        }
        Check.argument("-1", () -> x.addVirtual(0, 0, 0, -1L));
        Check.argument("at -1", () -> x.addVirtual(0, 0, -1, 65));
        Check.argument("behind the end", () -> x.addVirtual(0, 0, 3, 65));
        Check.range("in no line", () -> x.addVirtual(0, 2, -1, 0));
        Check.range("in line -1", () -> x.addVirtual(0, -1, 0, 65));
        Check.range("in pane 4", () -> x.addVirtual(4, 0, 0, 0));
        for (int many = 3; many <= 6; many++) {
            Check.due("add", many, x.addVirtual(0, 0, 2, 65));
        }
        Check.state("a 7th", () -> x.addVirtual(0, 0, 0, 65));
        Check.argument("an empty 7th", () -> x.addVirtual(0, 0, 0, 0));
        Check.due("rows", "akIbAAAA| }123456", Check.rows(x, 0));
        Check.due("in another pane", 1, x.addVirtual(3, 0, 0, 65));
    }

    private static void virtualOrder() {
        PaneLayers x = Check.withLines("a~~b~c");
        x.addVirtual(0, 0, 2, '1');
        x.addVirtual(0, 0, 1, '2');
        x.addVirtual(0, 0, 3, '3');
        x.addVirtual(0, 0, 4, '4');
        x.addVirtual(0, 0, 6, '5');
        x.addVirtual(0, 0, 0, '6');
        Check.due("by their clusters, then by numbers", "6a123b4c5", Check.rows(x, 0));
        x.hide(0, 0, 3, 4);
        Check.due("also at a hidden one", "6a1234c5", Check.rows(x, 0));
        Check.due("a virtual text ends no cluster", 3, x.cell(0, 0, 1, 1));
        x.hide(0, 0, 0, 6);
        Check.due("also if all are hidden", "612345", Check.rows(x, 0));
        PaneLayers y = Check.withLines("a~~");
        y.addVirtual(0, 0, 1, '1');
        y.addVirtual(0, 0, 3, '2');
        y.addVirtual(0, 0, 2, '3');
        Check.due("at the end of the line", "a123", Check.rows(y, 0));
    }

    private static void virtualsAndEdits() {
        PaneLayers x = Check.withLines("abcd", "ef");
        x.addVirtual(0, 0, 2, '!');
        x.insert(0, 2, 'k');
        Check.due("a sign at its place comes behind it", "ab!kcd|ef", Check.rows(x, 0));
        x.insert(0, 1, 'l');
        Check.due("a sign ahead of it", "alb!kcd|ef", Check.rows(x, 0));
        x.remove(0, 0, 2);
        Check.due("signs ahead of it go", "b!kcd|ef", Check.rows(x, 0));
        x.remove(0, 0, 2);
        Check.due("signs round it go", "!cd|ef", Check.rows(x, 0));
        x.breakLine(0, 0);
        Check.due("it stays at the end of a broken line", "!|cd|ef", Check.rows(x, 0));
        x.insert(0, 0, 'a');
        x.insert(0, 1, 'b');
        x.dropVirtual(0, 0);
        x.addVirtual(0, 0, 2, '!');
        x.breakLine(0, 1);
        Check.due("behind the break it goes", "a|b!|cd|ef", Check.rows(x, 0));
        Check.due("its place", 1, x.placeAt(0, 1, 1));
        x.join(0);
        Check.due("it comes back", "ab!|cd|ef", Check.rows(x, 0));
        Check.due("its place", 2, x.placeAt(0, 0, 2));
        x.breakLine(0, 0);
        x.addVirtual(0, 3, 0, '?');
        x.join(2);
        Check.due("what was at a beginning", "|ab!|cd?ef", Check.rows(x, 0));
    }

    private static void dropVirtual() {
        PaneLayers x = Check.withLines("a");
        x.addVirtual(0, 0, 0, '1');
        x.addVirtual(0, 0, 0, '2');
        x.addVirtual(0, 0, 0, '3');
        Check.due("rows", "123a", Check.rows(x, 0));
        Check.due("drop", 2, x.dropVirtual(0, 1));
        Check.due("rows", "13a", Check.rows(x, 0));
        Check.due("drop what was behind it", 1, x.dropVirtual(0, 1));
        Check.due("rows", "1a", Check.rows(x, 0));
        Check.argument("drop 1", () -> x.dropVirtual(0, 1));
        Check.argument("drop -1", () -> x.dropVirtual(0, -1));
        Check.argument("drop in pane 2", () -> x.dropVirtual(2, 0));
        Check.range("drop in pane 4", () -> x.dropVirtual(4, -1));
        Check.range("drop in pane -1", () -> x.dropVirtual(-1, 0));
        Check.due("rows", "1a", Check.rows(x, 0));
    }

    private static void addFold() {
        PaneLayers x = Check.withLines("a", "b", "c");
        Check.due("add", 1, x.addFold(0, 0, 1));
        Check.due("it is open", "a|b|c", Check.rows(x, 0));
        Check.due("add", 2, x.addFold(0, 0, 2));
        Check.argument("to the same line", () -> x.addFold(0, 1, 1));
        Check.argument("to a line ahead", () -> x.addFold(0, 2, 1));
        Check.range("from no line", () -> x.addFold(0, 3, 2));
        Check.range("to no line", () -> x.addFold(0, 0, 3));
        Check.range("from line -1", () -> x.addFold(0, -1, 1));
        Check.range("to line -1", () -> x.addFold(0, 1, -1));
        Check.range("in pane 4", () -> x.addFold(4, 1, 1));
        for (int many = 3; many <= 6; many++) {
            Check.due("add", many, x.addFold(0, 1, 2));
        }
        Check.state("a 7th", () -> x.addFold(0, 0, 1));
        Check.argument("a 7th to the same line", () -> x.addFold(0, 0, 0));
        Check.range("a 7th to no line", () -> x.addFold(0, 0, 3));
        Check.due("in another pane", 1, x.addFold(1, 0, 1));
    }

    private static void setClosed() {
        PaneLayers x = Check.withLines("a", "b", "c", "d", "e");
        x.addFold(0, 1, 3);
        x.addFold(0, 1, 2);
        x.addFold(0, 2, 4);
        Check.due("close", false, x.setClosed(0, 0, true));
        Check.due("rows", "a|b...|e", Check.rows(x, 0));
        Check.due("close again", true, x.setClosed(0, 0, true));
        Check.due("close", false, x.setClosed(0, 1, true));
        Check.due("signs come once", "a|b...|e", Check.rows(x, 0));
        Check.due("close", false, x.setClosed(0, 2, true));
        Check.due("a fold from an invisible line", "a|b...", Check.rows(x, 0));
        Check.due("open", true, x.setClosed(0, 0, false));
        Check.due("rows", "a|b...", Check.rows(x, 0));
        Check.due("open", true, x.setClosed(0, 1, false));
        Check.due("rows", "a|b|c...", Check.rows(x, 0));
        Check.due("rows of another pane", "a|b|c|d|e", Check.rows(x, 1));
        Check.due("open again", false, x.setClosed(0, 1, false));
        x.addVirtual(0, 2, 1, 'v');
        Check.due("the signs are behind all else", "a|b|cv...", Check.rows(x, 0));
        Check.argument("fold 3", () -> x.setClosed(0, 3, true) ? 1 : 0);
        Check.argument("fold -1", () -> x.setClosed(0, -1, true) ? 1 : 0);
        Check.argument("fold 0 of another pane", () -> x.setClosed(1, 0, true) ? 1 : 0);
        Check.range("pane 4", () -> x.setClosed(4, -1, true) ? 1 : 0);
    }

    private static void foldsAndEdits() {
        PaneLayers x = Check.withLines("a", "bc", "d", "ef", "g");
        x.addFold(0, 1, 3);
        x.setClosed(0, 0, true);
        Check.due("rows", "a|bc...|g", Check.rows(x, 0));
        x.breakLine(3, 1);
        Check.due("the new line of a broken last one is inside", "a|bc...|g", Check.rows(x, 0));
        x.breakLine(1, 1);
        Check.due("that of a broken first one, too", "a|b...|g", Check.rows(x, 0));
        x.breakLine(0, 0);
        Check.due("a line ahead", "|a|b...|g", Check.rows(x, 0));
        x.breakLine(7, 1);
        Check.due("a line behind", "|a|b...|g|", Check.rows(x, 0));
        x.join(0);
        x.join(6);
        x.join(0);
        Check.due("the first line becomes one with that ahead", "ab...|g", Check.rows(x, 0));
        x.join(3);
        x.join(0);
        x.join(0);
        Check.due("tekt", "abcd|ef|g", Check.text(x));
        Check.due("rows", "abcd...|g", Check.rows(x, 0));
        x.join(1);
        Check.due("the last line becomes one with that behind", "abcd...", Check.rows(x, 0));
        x.addFold(0, 0, 1);
        x.setClosed(0, 1, true);
        x.breakLine(1, 2);
        x.addFold(0, 0, 2);
        x.join(0);
        Check.due("folds of three lines stay", "abcdef...", Check.rows(x, 0));
        x.join(0);
        Check.due("folds of one line are gone", "abcdefg", Check.rows(x, 0));
        x.breakLine(0, 1);
        Check.due("all of them", 1, x.addFold(0, 0, 1));
        Check.due("the new one is open", false, x.setClosed(0, 0, true));
    }
}
