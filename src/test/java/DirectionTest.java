/** The levels of the clusters, as promise 20 tells them, and their order on the screen. */
final class DirectionTest {
    public static void main(String[] args) {
        lettersAndDigits();
        neutralOnes();
        brackets();
        isolatingOnes();
        deep();
        endsOfRows();
        screenOrder();
        Check.end();
    }

    /** The levels of a line, in the order of the text. */
    private static void levels(String line, String due) {
        PaneLayers x = Check.withLines(line);
        x.shape(0, 40, 0, 0);
        int[] levels = new int[line.length()];
        for (int cell = 0; cell < x.clusters(0, 0); cell++) {
            levels[x.cell(0, 0, cell, 5)] = x.cell(0, 0, cell, 4);
        }
        StringBuilder told = new StringBuilder();
        for (int level : levels) {
            told.append(level);
        }
        Check.due("levels of " + line, due, told.toString());
    }

    private static void lettersAndDigits() {
        levels("amAMnzNZ", "00001111");
        levels("nzNZamAM", "11112222");
        levels("", "");
        levels("12", "00");
        levels("a12", "000");
        levels("n12", "122");
        levels("12n", "221");
        levels("12a", "000");
        levels("an1b2", "01200");
        levels("na1n2", "12212");
        levels("an.1b2", "011200");
        levels("n09", "122");
        levels("n/:", "111");
    }

    private static void neutralOnes() {
        levels("...", "000");
        levels("a..b", "0000");
        levels("a..n", "0001");
        levels("an.-ob", "011110");
        levels("an.b", "0100");
        levels("na.b", "1222");
        levels("na.n", "1211");
        levels(".n.", "111");
        levels(".a.", "000");
        levels("n1.1", "1212");
        levels("an.", "010");
        levels("n@`{", "1111");
    }

    private static void brackets() {
        levels("a(n)", "0010");
        levels("an(o)", "01111");
        levels("an(o)b", "011110");
        levels("an(1b)", "010200");
        levels("an(..)b", "0100000");
        levels("an(..)o", "0111111");
        levels("n(a)", "1121");
        levels("na(b)", "12222");
        levels("na(bo)", "121211");
        levels("(n)a", "1112");
        levels("1(n)a", "21112");
        levels("a1(n)", "00010");
        levels("an(o]p)", "0111111");
        levels("an([o)]p)b", "0111111100");
        levels("an[o(p])", "01111110");
        levels("a(n(b)o)", "00100010");
        levels("an(o(p)q)", "011111111");
        levels("an(o)(p)", "01111111");
    }

    private static void isolatingOnes() {
        levels("a<n>b", "00100");
        levels("a<b>n", "00201");
        levels("<n>a", "0100");
        levels("<a>n", "1211");
        levels("<n", "11");
        levels("n>", "11");
        levels("a<n<b>o>", "00112110");
        levels("n<a>", "1121");
        levels("n<o>", "1131");
        levels("a<1>", "0020");
        levels("a<.>", "0020");
        levels("n<.>", "1121");
        levels("an<b>o", "011211");
        levels("an<b>.c", "0102000");
        levels("n<1n>", "11431");
        levels("(<)>)n", "112111");
        levels("a<<n>", "00010");
        levels("a<n>>", "00100");
        levels("a<n<b<o>>>", "0011223210");
    }

    private static void deep() {
        PaneLayers x = Check.withLines("<".repeat(40) + ">".repeat(40));
        x.shape(0, 40, 0, 0);
        for (int place = 0; place < 40; place++) {
            Check.due("level of <", 2 * place, levelOf(x, place));
            Check.due("level of its >", 2 * place, levelOf(x, 79 - place));
        }
        x.addVirtual(0, 0, 40, Check.virtual("<n>a"));
        Check.due("inside", 80, levelAt(x, '<', 1));
        Check.due("draw", 24, x.draw(0));
        Check.due("draw again", 0, x.draw(0));
    }

    private static int levelOf(PaneLayers x, int place) {
        for (int row = 0; row < 2; row++) {
            for (int cell = 0; cell < x.clusters(0, row); cell++) {
                if (x.cell(0, row, cell, 5) == place) {
                    return x.cell(0, row, cell, 4);
                }
            }
        }
        return PaneLayers.NONE;
    }

    /** The level of a virtual sign in a row. */
    private static int levelAt(PaneLayers x, int sign, int row) {
        for (int cell = 0; cell < x.clusters(0, row); cell++) {
            if (x.cell(0, row, cell, 0) == sign && x.cell(0, row, cell, 5) == PaneLayers.NONE) {
                return x.cell(0, row, cell, 4);
            }
        }
        return PaneLayers.NONE;
    }

    private static void endsOfRows() {
        PaneLayers x = Check.withLines("an nnnnnnnnnn n");
        x.shape(0, 10, 0, 0);
        Check.due("a blank at the end of a row has the level of the base", "0 1 0", Check.cells(x, 0, 0, 4));
        Check.due("it stands behind", "0 1 2", Check.cells(x, 0, 0, 5));
        x.shape(0, 20, 0, 0);
        Check.due("inside a row it has not", "0 1 1 1 1 1 1 1 1 1 1 1 1 1 1", Check.cells(x, 0, 0, 4));
        PaneLayers y = Check.withLines("na \t");
        Check.due("of the base 1", "1 1 2 1", Check.cells(y, 0, 0, 4));
        Check.due("it stands ahead", "3 2 1 0", Check.cells(y, 0, 0, 5));
        PaneLayers z = Check.withLines("an ");
        Check.due("a blank at the end", "0 1 0", Check.cells(z, 0, 0, 4));
        z.addVirtual(0, 0, 3, 'o');
        Check.due("a blank that is not behind all else", "0 1 1 1", Check.cells(z, 0, 0, 4));
        PaneLayers w = Check.withLines("a<n<b  >>");
        Check.due("both are closed", "0 0 1 2 2 2 1 1 0", Check.cells(w, 0, 0, 4));
        w.hide(0, 0, 7, 9);
        Check.due("what is hidden closes nothing", "0 0 1 0 0 0 0", Check.cells(w, 0, 0, 4));
    }

    private static void screenOrder() {
        PaneLayers x = Check.withLines("abno12pqcd");
        Check.due("levels", "0 0 1 1 2 2 1 1 0 0", Check.cells(x, 0, 0, 4));
        Check.due("order", "abqp12oncd", Check.rows(x, 0));
        PaneLayers y = Check.withLines("nAoB1p");
        Check.due("order", "pB1oAn", Check.rows(y, 0));
        Check.due("columns", "0 1 3 4 5 7", Check.cells(y, 0, 0, 2));
        Check.due("levels", "1 2 2 1 2 1", Check.cells(y, 0, 0, 4));
        PaneLayers z = Check.withLines("no pqrstuvwxyz");
        z.shape(0, 10, 3, 0);
        Check.due("rows are turned by themselves", " on|vutsrqp|zyxw", Check.rows(z, 0));
        Check.due("from the first column on", "3 4 5 6 7 8 9", Check.cells(z, 0, 1, 2));
        PaneLayers w = Check.withLines("n\to");
        Check.due("a tab keeps the width with which it was laid", "1 3 1", Check.cells(w, 0, 0, 3));
        w.insert(0, 1, 'P');
        Check.due("widths", "1 1 2 1", Check.cells(w, 0, 0, 3));
        Check.due("columns", "0 1 2 4", Check.cells(w, 0, 0, 2));
        PaneLayers v = Check.withLines("ab");
        v.addVirtual(0, 0, 0, Check.virtual("n(1)"));
        Check.due("virtual signs have directions, too", "ab)1(n", Check.rows(v, 0));
        Check.due("their levels", "2 2 1 2 1 1", Check.cells(v, 0, 0, 4));
    }
}
