/** The section "Directions", rule by rule, with what promise 20 tells of levels, columns and the order on the screen. */
final class DirectionEdgeTest {
    public static void main(String[] args) {
        kinds();
        bases();
        isolatingOnes();
        basesInside();
        digits();
        bracketsThatPair();
        directionsOfPairs();
        pairsInside();
        neutralOnes();
        levelsOfDirections();
        blanksAtTheEndOfRows();
        turned();
        layersTakePart();
        Check.end();
    }

    private static void kinds() {
        for (char sign : new char[] {'a', 'm', 'A', 'M'}) {
            Check.levels(sign + "", "0");
            Check.levels("n" + sign + "n", "121");
        }
        for (char sign : new char[] {'n', 'z', 'N', 'Z'}) {
            Check.levels(sign + "", "1");
            Check.levels("a" + sign + "a", "010");
        }
        for (char sign : new char[] {'@', '`', '{', '}', '/', ':', '_', '!', ' ', '\t', '<', '>', '[', ']', '(', ')'}) {
            Check.levels(sign + "", "0");
            Check.levels("n" + sign + "a", "112");
            Check.levels("a" + sign + "n", "001");
        }
        for (char sign : new char[] {'0', '9'}) {
            Check.levels(sign + "", "0");
            Check.levels("n" + sign, "12");
        }
        PaneLayers x = Check.withLines("n~~", "~n", "a~n");
        Check.due("by the first sign", 1, x.cell(0, 0, 0, 4));
        Check.due("~ is neutral", "1 1", Check.cells(x, 0, 1, 4));
        Check.due("behind the first sign it is nothing", "0 1", Check.cells(x, 0, 2, 4));
    }

    private static void bases() {
        Check.levels("", "");
        Check.levels("..", "00");
        Check.levels("12", "00");
        Check.levels("..n", "111");
        Check.levels("..a", "000");
        Check.levels("12n", "221");
        Check.levels("12a", "000");
        Check.levels("<n>", "010");
        Check.levels("<n>a", "0100");
        Check.levels("<a>n", "1211");
        Check.levels("<n", "11");
        Check.levels(">n", "11");
        Check.levels("<<n>", "0010");
        Check.levels("<n<a>o", "111211");
        Check.levels("<n>>o", "13111");
        Check.levels("(n)", "111");
        Check.levels("<>", "00");
        Check.levels("<><n>", "00010");
    }

    private static void isolatingOnes() {
        Check.levels("a<b>c", "00200");
        Check.levels("a<b", "000");
        Check.levels("a>b", "000");
        Check.levels("a>n<b", "00100");
        Check.levels("a<n", "001");
        Check.levels("an<b>o", "011211");
        Check.levels("an>o", "0111");
        Check.levels("an<o", "0111");
        Check.levels("a<<n>>b", "0023200");
        Check.levels("a<n><o>b", "00100100");
        Check.levels("(<)>)n", "112111");
        Check.levels("a<(>n)b", "0020100");
    }

    private static void basesInside() {
        Check.levels("a<b>", "0020");
        Check.levels("a<n>", "0010");
        Check.levels("n<b>", "1121");
        Check.levels("n<o>", "1131");
        Check.levels("a<.>", "0020");
        Check.levels("a<1>", "0020");
        Check.levels("n<.>", "1121");
        Check.levels("n<1>", "1121");
        Check.levels("<<n>a>", "023220");
        Check.levels("<<a>n>", "012110");
        Check.levels("<n<o<p<q>>>>", "011335575310");
        Check.levels("<a<b<c>>>", "022446420");
    }

    private static void digits() {
        Check.levels("a1", "00");
        Check.levels("n1", "12");
        Check.levels("1", "0");
        Check.levels("1n", "21");
        Check.levels("na1", "122");
        Check.levels("an1", "012");
        Check.levels("an.1", "0112");
        Check.levels("an1a2n3", "0120012");
        Check.levels("a(n)1", "00102");
        Check.levels("a<n>1", "00100");
        Check.levels("n<a>1", "11212");
        Check.levels("a<1n>", "00210");
        Check.levels("n<1o>", "11431");
        Check.levels("a<1>n<1>", "00201020");
        Check.levels("1.1n", "2121");
        Check.levels("1.1a", "0000");
        Check.levels("an1.1", "01212");
        Check.levels("an1.b", "01200");
    }

    private static void bracketsThatPair() {
        Check.levels("an(o)b", "011110");
        Check.levels("an(o]b", "011100");
        Check.levels("an[o]b", "011110");
        Check.levels("an[o)b", "011100");
        Check.levels("an(o[p)q]b", "0111111100");
        Check.levels("an)o(p", "011111");
        Check.levels("a)n(o", "00111");
        Check.levels("a(n[o)p]", "00111010");
        Check.levels("an((o)b", "0111110");
        Check.levels("an(o))b", "0111100");
        Check.levels("a]n[o(p", "0011111");
        Check.levels("an{o}b", "011100");
    }

    private static void directionsOfPairs() {
        Check.levels("a(b)n", "00001");
        Check.levels("a(n)b", "00100");
        Check.levels("an(b)o", "010001");
        Check.levels("an(ob)p", "0101001");
        Check.levels("an.(o)b", "0111110");
        Check.levels("a.(n)b", "000100");
        Check.levels("n.(a)o", "111211");
        Check.levels("an1(o)b", "0121110");
        Check.levels("an(1)b", "011210");
        Check.levels("a1(n)b", "000100");
        Check.levels("a(.)n", "00001");
        Check.levels("an(.)o", "011111");
        Check.levels("an(.)b", "010000");
        Check.levels("(.)n", "1111");
        Check.levels("(a)n", "0001");
        Check.levels("n(a)o", "11211");
        Check.levels("na(b)o", "122221");
        Check.levels("na.(b)o", "1222221");
        Check.levels("na(o)b", "121112");
        Check.levels("n1(a)b", "121212");
        Check.levels("an((o))b", "01111110");
        Check.levels("a((o))", "000100");
        Check.levels("an(o)(p)b", "011111110");
        Check.levels("an(b)(o)c", "010000100");
        Check.levels("a(n(b)o)c", "001000100");
    }

    /** In pairs the base is 1 or more, and its direction is even or odd all the same. */
    private static void pairsInside() {
        Check.levels("<a(n)b>", "0223220");
        Check.levels("<n(a)o>", "0112110");
        Check.levels("n<o(a)p>", "11334331");
        Check.levels("<an(o)b>", "02333320");
        Check.levels("<an(ob)c>", "023232220");
        Check.levels("n<oa(b)p>", "113444431");
        Check.levels("<(a)>n", "122211");
        Check.levels("an(<o>)b", "01001000");
        Check.levels("an(o<b>)c", "011112110");
    }

    private static void neutralOnes() {
        Check.levels(".a", "00");
        Check.levels(".n", "11");
        Check.levels("a.", "00");
        Check.levels("n.", "11");
        Check.levels("a..b", "0000");
        Check.levels("an..ob", "011110");
        Check.levels("a..n", "0001");
        Check.levels("an..b", "01000");
        Check.levels("na..bn", "122221");
        Check.levels("na..n", "12111");
        Check.levels("na..", "1211");
        Check.levels("an..", "0100");
        Check.levels("an.1", "0112");
        Check.levels("a.1n", "0001");
        Check.levels("an.<b>.o", "01112111");
        Check.levels("an.<b>.c", "01002000");
        Check.levels("a<.n>", "00110");
        Check.levels("a<n.>b", "001100");
        Check.levels("n<a.>o", "112211");
    }

    private static void levelsOfDirections() {
        Check.levels("an1", "012");
        Check.levels("na1", "122");
        Check.levels("<an1>", "02340");
        Check.levels("<na1>", "01220");
        Check.levels("n<oa1>", "113441");
        Check.levels("n<ao1>", "112341");
    }

    private static void blanksAtTheEndOfRows() {
        PaneLayers x = Check.withLines("annnnnnn  ooo");
        x.shape(0, 10, 0, 0);
        Check.due("two blanks between right ones, base 0", "0 1 1 1 1 1 1 1 0 0", Check.cells(x, 0, 0, 4));
        Check.due("they stand on the right", "0 7 6 5 4 3 2 1 8 9", Check.cells(x, 0, 0, 5));
        x.shape(0, 11, 0, 0);
        Check.due("also with room behind them", "0 1 1 1 1 1 1 1 0 0", Check.cells(x, 0, 0, 4));
        x.shape(0, 13, 0, 0);
        Check.due("not in the middle of a row", "0 1 1 1 1 1 1 1 1 1 1 1 1", Check.cells(x, 0, 0, 4));
        PaneLayers y = Check.withLines("naaaaaaa \tbbb");
        y.shape(0, 10, 0, 0);
        Check.due("a blank and a tab between left ones, base 1", "1 1 2 2 2 2 2 2 2 1", Check.cells(y, 0, 0, 4));
        Check.due("they stand on the left", "9 8 1 2 3 4 5 6 7 0", Check.cells(y, 0, 0, 5));
        Check.due("each with its width", "0 1 1 1 1 1 1 1 1 1", Check.cells(y, 0, 0, 3));
        Check.due("from the first column on", "0 0 1 2 3 4 5 6 7 8", Check.cells(y, 0, 0, 2));
        PaneLayers z = Check.withLines("a<nnnnnnnn  ooo>");
        z.shape(0, 10, 0, 0);
        Check.due("the base of the line, also inside a pair", "0 0 1 1 1 1 1 1 1 1 0 0", Check.cells(z, 0, 0, 4));
        PaneLayers w = Check.withLines("an  ");
        Check.due("at the end of the line", "0 1 0 0", Check.cells(w, 0, 0, 4));
        w.addVirtual(0, 0, 4, Check.virtual("  "));
        Check.due("virtual ones, too", "0 1 0 0 0 0", Check.cells(w, 0, 0, 4));
        w.addVirtual(0, 0, 4, 'n');
        Check.due("not ahead of something else", "0 1 1 1 1 1 1", Check.cells(w, 0, 0, 4));
        PaneLayers v = Check.withLines("an _ ~");
        Check.due("only those behind all else", "0 1 0 0 0", Check.cells(v, 0, 0, 4));
        PaneLayers u = Check.withLines("an ", "b");
        u.addFold(0, 0, 1);
        u.setClosed(0, 0, true);
        Check.due("the signs of a fold are behind them", "0 1 0 0 0 0", Check.cells(u, 0, 0, 4));
    }

    /** The places of the clusters of a line, as they stand on the screen. */
    private static void order(String line, String due) {
        PaneLayers x = Check.withLines(line);
        x.shape(0, 40, 0, 0);
        Check.due("the order of " + line, due, Check.cells(x, 0, 0, 5));
    }

    private static void turned() {
        order("ab", "0 1");
        order("no", "1 0");
        order("abno", "0 1 3 2");
        order("noab", "2 3 1 0");
        order("an12o", "0 4 2 3 1");
        order("n12", "1 2 0");
        order("n<1o>", "4 3 2 1 0");
        order("n<ao1>p", "6 5 2 4 3 1 0");
        order("a<n<bc>o>d", "0 1 7 6 4 5 3 2 8 9");
        PaneLayers x = Check.withLines("nAb\tO");
        x.shape(0, 10, 0, 0);
        Check.due("each with the width with which it was laid", "2 4 2 1 1", Check.cells(x, 0, 0, 3));
        PaneLayers y = Check.withLines("annnnnnnnnnoob");
        y.shape(0, 10, 3, 0);
        Check.due("each row by itself", "0 9 8 7 6 5 4 3 2 1", Check.cells(y, 0, 0, 5));
        Check.due("the second row", "12 11 10 13", Check.cells(y, 0, 1, 5));
        Check.due("from its first column on", "3 4 5 6", Check.cells(y, 0, 1, 2));
        Check.due("with the levels of the line", "1 1 1 0", Check.cells(y, 0, 1, 4));
    }

    private static void layersTakePart() {
        PaneLayers x = Check.withLines("ab");
        x.addVirtual(0, 0, 0, 'n');
        Check.due("a virtual one tells the base", "2 2 1", Check.cells(x, 0, 0, 4));
        x.hide(0, 0, 0, 1);
        Check.due("a hidden one is not there", "2 1", Check.cells(x, 0, 0, 4));
        PaneLayers y = Check.withLines("na");
        y.hide(0, 0, 0, 1);
        Check.due("nor does it tell the base", "0", Check.cells(y, 0, 0, 4));
        PaneLayers z = Check.withLines("n(a", "b");
        z.addVirtual(0, 0, 3, ')');
        Check.due("a virtual bracket closes one", "1 2 1 1", Check.cells(z, 0, 0, 4));
        z.hide(0, 0, 1, 2);
        Check.due("not a hidden one", "1 2 1", Check.cells(z, 0, 0, 4));
        PaneLayers w = Check.withLines("a<n");
        w.addVirtual(0, 0, 3, Check.virtual(">b"));
        Check.due("a virtual > closes a <", "0 0 1 0 0", Check.cells(w, 0, 0, 4));
        w.open(1);
        Check.due("in its own pane", "0 0 1", Check.cells(w, 1, 0, 4));
    }
}
