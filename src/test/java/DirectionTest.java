/** The levels of the clusters, as promise 20 tells them, and their order on the screen. */
final class DirectionTest {
    public static void main(String[] args) {
        lettersAndDigits();
        neutralOnes();
        brackets();
        isolatingOnes();
        deep();
        endsOfRows();
        screenOrder();
        Check.end();
    }

    private static void lettersAndDigits() {
        Check.levels("amAMnzNZ", "00001111");
        Check.levels("nzNZamAM", "11112222");
        Check.levels("", "");
        Check.levels("12", "00");
        Check.levels("a12", "000");
        Check.levels("n12", "122");
        Check.levels("12n", "221");
        Check.levels("12a", "000");
        Check.levels("an1b2", "01200");
        Check.levels("na1n2", "12212");
        Check.levels("an.1b2", "011200");
        Check.levels("n09", "122");
        Check.levels("n/:", "111");
    }

    private static void neutralOnes() {
        Check.levels("...", "000");
        Check.levels("a..b", "0000");
        Check.levels("a..n", "0001");
        Check.levels("an.-ob", "011110");
        Check.levels("an.b", "0100");
        Check.levels("na.b", "1222");
        Check.levels("na.n", "1211");
        Check.levels(".n.", "111");
        Check.levels(".a.", "000");
        Check.levels("n1.1", "1212");
        Check.levels("an.", "010");
        Check.levels("n@`{", "1111");
    }

    private static void brackets() {
        Check.levels("a(n)", "0010");
        Check.levels("an(o)", "01111");
        Check.levels("an(o)b", "011110");
        Check.levels("an(1b)", "010200");
        Check.levels("an(..)b", "0100000");
        Check.levels("an(..)o", "0111111");
        Check.levels("n(a)", "1121");
        Check.levels("na(b)", "12222");
        Check.levels("na(bo)", "121211");
        Check.levels("(n)a", "1112");
        Check.levels("1(n)a", "21112");
        Check.levels("a1(n)", "00010");
        Check.levels("an(o]p)", "0111111");
        Check.levels("an([o)]p)b", "0111111100");
        Check.levels("an[o(p])", "01111110");
        Check.levels("a(n(b)o)", "00100010");
        Check.levels("an(o(p)q)", "011111111");
        Check.levels("an(o)(p)", "01111111");
    }

    private static void isolatingOnes() {
        Check.levels("a<n>b", "00100");
        Check.levels("a<b>n", "00201");
        Check.levels("<n>a", "0100");
        Check.levels("<a>n", "1211");
        Check.levels("<n", "11");
        Check.levels("n>", "11");
        Check.levels("a<n<b>o>", "00112110");
        Check.levels("n<a>", "1121");
        Check.levels("n<o>", "1131");
        Check.levels("a<1>", "0020");
        Check.levels("a<.>", "0020");
        Check.levels("n<.>", "1121");
        Check.levels("an<b>o", "011211");
        Check.levels("an<b>.c", "0102000");
        Check.levels("n<1n>", "11431");
        Check.levels("(<)>)n", "112111");
        Check.levels("a<<n>", "00010");
        Check.levels("a<n>>", "00100");
        Check.levels("a<n<b<o>>>", "0011223210");
    }

    private static void deep() {
        PaneLayers x = Check.withLines("<".repeat(40) + ">".repeat(40));
        x.shape(0, 40, 0, 0);
        for (int place = 0; place < 40; place++) {
            Check.due("level of <", 2 * place, levelOf(x, place));
            Check.due("level of its >", 2 * place, levelOf(x, 79 - place));
        }
        x.addVirtual(0, 0, 40, Check.virtual("<n>a"));
        Check.due("inside", 80, levelAt(x, '<', 1));
        Check.due("draw", 24, x.draw(0));
        Check.due("draw again", 0, x.draw(0));
    }

    private static int levelOf(PaneLayers x, int place) {
        for (int row = 0; row < 2; row++) {
            for (int cell = 0; cell < x.clusters(0, row); cell++) {
                if (x.cell(0, row, cell, 5) == place) {
                    return x.cell(0, row, cell, 4);
                }
            }
        }
        return PaneLayers.NONE;
    }

    /** The level of a virtual sign in a row. */
    private static int levelAt(PaneLayers x, int sign, int row) {
        for (int cell = 0; cell < x.clusters(0, row); cell++) {
            if (x.cell(0, row, cell, 0) == sign && x.cell(0, row, cell, 5) == PaneLayers.NONE) {
                return x.cell(0, row, cell, 4);
            }
        }
        return PaneLayers.NONE;
    }

    private static void endsOfRows() {
        PaneLayers x = Check.withLines("an nnnnnnnnnn n");
        x.shape(0, 10, 0, 0);
        Check.due("a blank at the end of a row has the level of the base", "0 1 0", Check.cells(x, 0, 0, 4));
        Check.due("it stands behind", "0 1 2", Check.cells(x, 0, 0, 5));
        x.shape(0, 20, 0, 0);
        Check.due("inside a row it has not", "0 1 1 1 1 1 1 1 1 1 1 1 1 1 1", Check.cells(x, 0, 0, 4));
        PaneLayers y = Check.withLines("na \t");
        Check.due("of the base 1", "1 1 2 1", Check.cells(y, 0, 0, 4));
        Check.due("it stands ahead", "3 2 1 0", Check.cells(y, 0, 0, 5));
        PaneLayers z = Check.withLines("an ");
        Check.due("a blank at the end", "0 1 0", Check.cells(z, 0, 0, 4));
        z.addVirtual(0, 0, 3, 'o');
        Check.due("a blank that is not behind all else", "0 1 1 1", Check.cells(z, 0, 0, 4));
        PaneLayers w = Check.withLines("a<n<b  >>");
        Check.due("both are closed", "0 0 1 2 2 2 1 1 0", Check.cells(w, 0, 0, 4));
        w.hide(0, 0, 7, 9);
        Check.due("what is hidden closes nothing", "0 0 1 0 0 0 0", Check.cells(w, 0, 0, 4));
    }

    private static void screenOrder() {
        PaneLayers x = Check.withLines("abno12pqcd");
        Check.due("levels", "0 0 1 1 2 2 1 1 0 0", Check.cells(x, 0, 0, 4));
        Check.due("order", "abqp12oncd", Check.rows(x, 0));
        PaneLayers y = Check.withLines("nAoB1p");
        Check.due("order", "pB1oAn", Check.rows(y, 0));
        Check.due("columns", "0 1 3 4 5 7", Check.cells(y, 0, 0, 2));
        Check.due("levels", "1 2 2 1 2 1", Check.cells(y, 0, 0, 4));
        PaneLayers z = Check.withLines("no pqrstuvwxyz");
        z.shape(0, 10, 3, 0);
        Check.due("rows are turned by themselves", " on|vutsrqp|zyxw", Check.rows(z, 0));
        Check.due("from the first column on", "3 4 5 6 7 8 9", Check.cells(z, 0, 1, 2));
        PaneLayers w = Check.withLines("n\to");
        Check.due("a tab keeps the width with which it was laid", "1 3 1", Check.cells(w, 0, 0, 3));
        w.insert(0, 1, 'P');
        Check.due("widths", "1 1 2 1", Check.cells(w, 0, 0, 3));
        Check.due("columns", "0 1 2 4", Check.cells(w, 0, 0, 2));
        PaneLayers v = Check.withLines("ab");
        v.addVirtual(0, 0, 0, Check.virtual("n(1)"));
        Check.due("virtual signs have directions, too", "ab)1(n", Check.rows(v, 0));
        Check.due("their levels", "2 2 1 2 1 1", Check.cells(v, 0, 0, 4));
    }
}
