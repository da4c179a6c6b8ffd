/** Random runs of all calls: the class and the model have to answer alike, and only the document's exceptions come. */
final class ModelTest {
    private static final int RUNS = 600;
    /** Nothing is promised of later calls of an object. */
    private static final int CALLS = 512;
    private static final int TELLINGS = 6;
    private static final String[] NAMES = {"lines", "length", "sign", "insert", "remove", "breakLine", "join", "setMark",
        "shape", "hide", "show", "addVirtual", "dropVirtual", "addFold", "setClosed", "rows", "rowsOf", "clusters",
        "cell", "rowAt", "columnAt", "lineAt", "placeAt", "marksAt", "minimap", "open", "close", "share", "height",
        "put", "move", "play", "cursor", "scroll", "type", "typeBox", "draw", "shift"};
    private static final String[] ALPHABETS = {
        "abm nz AN (x) 12 ~\t<[>]",
        "an 1()[]<>",
        "hello World this is Text with words  \t",
        "norz stuv WXYZ 123 \t (o[p])",
        "ab~N ~~  .,",
        "<a<n<1>x>b>(n[<1)]>",
        " \t aN"};

    private final int seed;
    private final Lot lot;
    private final String alphabet;
    private final boolean isWild;
    /** A run of few signs and many layers, in which the cursors are looked at after each call. */
    private final boolean isLayered;
    private final StringBuilder told = new StringBuilder();
    /** How many calls the object has got. */
    private int used;
    private PaneLayers its = new PaneLayers();
    private Model model = new Model();

    /** Numbers that are always the same for a seed. */
    private static final class Lot {
        private long state;

        Lot(long seed) {
            state = seed * 0x9E3779B97F4A7C15L + 12345;
        }

        int below(int bound) {
            state = state * 6364136223846793005L + 1442695040888963407L;
            return (int) ((state >>> 33) % bound);
        }

        boolean once(int bound) {
            return below(bound) == 0;
        }
    }

    private ModelTest(int seed) {
        this.seed = seed;
        lot = new Lot(seed);
        alphabet = ALPHABETS[seed % ALPHABETS.length];
        isWild = seed % 5 == 4;
        isLayered = seed % 4 == 3;
    }

    public static void main(String[] args) {
        int runs = args.length > 0 ? Integer.parseInt(args[0]) : RUNS;
        for (int seed = 0; seed < runs; seed++) {
            new ModelTest(seed).run();
        }
        Check.end();
    }

    /** Brings lines, signs and layers near to the greatest numbers that the document allows. */
    private void fill() {
        for (int i = 0; i < 57; i++) {
            give(5, 0, 0);
        }
        for (int line = 0; line < 2; line++) {
            for (int i = 0; i < 76 + line; i++) {
                give(3, line, 0, alphabet.charAt(lot.below(alphabet.length())));
            }
        }
        for (int i = 0; i < 5; i++) {
            give(9, 0, 0, 10 * i, 10 * i + 3);
            give(11, 0, 1, 7 * i, '(' + i);
            give(13, 0, 5 * i, 5 * i + 4);
        }
    }

    private void makeLow(int height) {
        give(25, 1);
        give(27, 0, 1, 1, height);
    }

    /** A call for the class and the model, which have to answer alike. */
    private boolean give(int call, long... a) {
        String got = answer(call, a, true);
        String due = answer(call, a, false);
        used++;
        told.append(NAMES[call]).append(java.util.Arrays.toString(a)).append(" = ").append(due).append("\n");
        return isDue(NAMES[call], due, got);
    }

    private boolean isDue(String what, String due, String got) {
        boolean isAlike = got.equals(due);
        if (!isAlike) {
            System.out.println("run " + seed + ":\n" + told);
        }
        Check.due("seed " + seed + " call " + used + " " + what, due, got);
        return isAlike;
    }

    private void run() {
        if (seed % 15 == 5) {
            fill();
        }
        if (isLayered && lot.once(2)) {
            makeLow(1 + lot.below(8));
        }
        boolean isAlike = true;
        for (int i = 0; used + TELLINGS < CALLS && isAlike; i++) {
            int call = isLayered ? layering(i) : used < CALLS / 3 && !lot.once(4) ? editing()
                : used < CALLS * 3 / 4 ? mixed() : lot.once(2) ? asking() : lot.below(NAMES.length);
            isAlike = give(call, arguments(call)) && (!isLayered || hasDueCursor());
        }
    }

    private boolean hasDueCursor() {
        StringBuilder got = new StringBuilder();
        StringBuilder due = new StringBuilder();
        for (int what = 0; what < TELLINGS; what++) {
            got.append(its.cursor(0, what)).append(" ");
            due.append(model.cursor(0, what)).append(" ");
            used++;
        }
        return isDue("the cursor then", due.toString(), got.toString());
    }

    private int layering(int number) {
        int[] first = {5, 5, 11, 11, 8, 13};
        int[] then = {11, 12, 13, 14, 14, 14, 14, 29, 29, 30, 30, 33, 33, 33, 8, 9, 9, 10, 34, 5, 6, 4, 4, 27, 25, 36, 35};
        return number < 8 ? first[lot.below(first.length)] : then[lot.below(then.length)];
    }

    private int asking() {
        int[] calls = {16, 17, 18, 18, 18, 18, 19, 20, 20, 21, 22, 22, 23, 24, 28, 32};
        return calls[lot.below(calls.length)];
    }

    private int editing() {
        int[] calls = {34, 34, 34, 34, 34, 34, 3, 3, 3, 5, 5, 6, 4, 11, 9, 13, 14, 8, 29, 7, 35, 30};
        return calls[lot.below(calls.length)];
    }

    private int mixed() {
        int[] calls = {30, 30, 30, 30, 33, 33, 36, 36, 34, 35, 29, 32, 32, 20, 22, 18, 26, 25, 27, 14, 8, 10, 31, 3, 4, 5,
            6, 37, 23, 7};
        return calls[lot.below(calls.length)];
    }

    private int wild(int good) {
        if (isWild ? lot.once(6) : lot.once(60)) {
            int[] odd = {-1, -2, 0, 1, 4, 6, 8, 9, 40, 41, 60, 80, 81, 127, 1000, Integer.MAX_VALUE, Integer.MIN_VALUE};
            return odd[lot.below(odd.length)];
        }
        return good;
    }

    private int line() {
        return wild(lot.below(isLayered ? Math.min(4, (int) model.lines()) : (int) model.lines()));
    }

    private int lengthOf(int line) {
        return line >= 0 && line < model.lines() ? (int) model.length(line) : 0;
    }

    private int placeIn(int line) {
        return wild(lot.below(lengthOf(line) + 1));
    }

    private int sign() {
        return wild(lot.once(20) ? lot.once(8) ? 9 : 32 + lot.below(95) : alphabet.charAt(lot.below(alphabet.length())));
    }

    private int pane() {
        return wild(isLayered || lot.once(2) ? 0 : lot.below(4));
    }

    private int row(int pane) {
        return pane < 0 || pane > 3 ? 0 : wild(lot.below((int) model.rows(pane)));
    }

    private long virtualSigns() {
        long signs = 0;
        int many = isLayered ? 8 - lot.below(3) : lot.once(6) ? lot.below(9) : 1 + lot.below(4);
        for (int i = 0; i < many; i++) {
            char sign = alphabet.charAt(lot.below(alphabet.length()));
            boolean isBad = sign == '~' || sign == '\t';
            signs |= (long) (isBad && !lot.once(10) ? '.' : sign) << 8 * i;
        }
        return lot.once(40) ? signs << 8 : lot.once(40) ? signs | 1L << 63 : signs;
    }

    private long[] arguments(int call) {
        int line = line();
        int pane = pane();
        int row = row(pane);
        int place = placeIn(line);
        int from = Math.min(place, placeIn(line));
        int to = lot.once(12) ? from : Math.max(place, Math.min(lengthOf(line), from + 1 + lot.below(5)));
        switch (call) {
            case 0:
                return new long[0];
            case 1:
            case 6:
                return new long[] {line};
            case 2:
            case 5:
                return new long[] {line, place};
            case 3:
                return new long[] {line, place, sign()};
            case 4:
                return new long[] {line, from, to};
            case 7:
                return new long[] {line, lot.below(2)};
            case 8:
                return new long[] {pane, wild(10 + lot.below(isLayered ? 2 : lot.once(3) ? 31 : 8)), wild(lot.below(5)),
                    wild(lot.below(4))};
            case 9:
                return new long[] {pane, line, from, to};
            case 10:
            case 12:
                return new long[] {pane, wild(lot.below(6))};
            case 11:
                return new long[] {pane, line, place, virtualSigns()};
            case 13:
                return new long[] {pane, Math.min(line, line()), line()};
            case 14:
                return new long[] {pane, wild(lot.below(3)), lot.below(2)};
            case 16:
                return new long[] {pane, line};
            case 18:
                return new long[] {pane, row, wild(lot.below(12)), wild(lot.below(6))};
            case 19:
            case 20:
                return new long[] {pane, line, place, wild(lot.below(2))};
            case 17:
            case 21:
            case 23:
                return new long[] {pane, row};
            case 22:
                return new long[] {pane, row, wild(lot.below(lot.once(2) ? 40 : 12))};
            case 24:
                return new long[] {pane, wild(lot.below(8))};
            case 27:
                return new long[] {pane, wild(1 + lot.below(9)), wild(1 + lot.below(8)),
                    lot.once(2) ? -1 : wild(1 + lot.below(16))};
            case 29:
                return new long[] {pane, line, place};
            case 30:
                return new long[] {pane, wild(lot.below(8))};
            case 31:
                return new long[] {pane, pane()};
            case 32:
                return new long[] {pane, wild(lot.below(6))};
            case 33:
                return new long[] {pane, wild(lot.once(8) ? lot.below(201) - 100 : lot.below(11) - 5)};
            case 34:
                return new long[] {pane, sign()};
            case 35:
                return new long[] {pane, row, wild(1 + lot.below(4)), wild(lot.below(20)), sign()};
            default:
                return new long[] {pane};
        }
    }

    private String answer(int call, long[] a, boolean isReal) {
        try {
            return "" + (isReal ? real(call, a) : due(call, a));
        } catch (IndexOutOfBoundsException | IllegalArgumentException | IllegalStateException thrown) {
            if (isReal && !thrown.getStackTrace()[0].getClassName().startsWith("PaneLayers")) {
                return "the machine threw " + thrown;
            }
            return thrown.getClass().getName();
        } catch (RuntimeException thrown) {
            if (!isReal) {
                throw thrown;
            }
            thrown.printStackTrace(System.out);
            return "the machine threw " + thrown;
        }
    }

    private long real(int call, long[] a) {
        int b = a.length > 0 ? (int) a[0] : 0;
        int c = a.length > 1 ? (int) a[1] : 0;
        int d = a.length > 2 ? (int) a[2] : 0;
        int e = a.length > 3 ? (int) a[3] : 0;
        PaneLayers x = its;
        switch (call) {
            case 0: return x.lines();
            case 1: return x.length(b);
            case 2: return x.sign(b, c);
            case 3: return x.insert(b, c, d);
            case 4: return x.remove(b, c, d);
            case 5: return x.breakLine(b, c);
            case 6: return x.join(b);
            case 7: return x.setMark(b, c == 1) ? 1 : 0;
            case 8: x.shape(b, c, d, e); return 0;
            case 9: return x.hide(b, c, d, e);
            case 10: return x.show(b, c);
            case 11: return x.addVirtual(b, c, d, a[3]);
            case 12: return x.dropVirtual(b, c);
            case 13: return x.addFold(b, c, d);
            case 14: return x.setClosed(b, c, d == 1) ? 1 : 0;
            case 15: return x.rows(b);
            case 16: return x.rowsOf(b, c);
            case 17: return x.clusters(b, c);
            case 18: return x.cell(b, c, d, e);
            case 19: return x.rowAt(b, c, d, e);
            case 20: return x.columnAt(b, c, d, e);
            case 21: return x.lineAt(b, c);
            case 22: return x.placeAt(b, c, d);
            case 23: return x.marksAt(b, c);
            case 24: return x.minimap(b, c);
            case 25: return x.open(b);
            case 26: return x.close(b);
            case 27: return x.share(b, c, d, e);
            case 28: return x.height(b);
            case 29: return x.put(b, c, d);
            case 30: return x.move(b, c) ? 1 : 0;
            case 31: return x.play(b, c);
            case 32: return x.cursor(b, c);
            case 33: return x.scroll(b, c);
            case 34: return x.type(b, c);
            case 35: return x.typeBox(b, c, d, e, (int) a[4]);
            case 36: return x.draw(b);
            default: return x.shift(b);
        }
    }

    private long due(int call, long[] a) {
        int b = a.length > 0 ? (int) a[0] : 0;
        int c = a.length > 1 ? (int) a[1] : 0;
        int d = a.length > 2 ? (int) a[2] : 0;
        int e = a.length > 3 ? (int) a[3] : 0;
        Model x = model;
        switch (call) {
            case 0: return x.lines();
            case 1: return x.length(b);
            case 2: return x.sign(b, c);
            case 3: return x.insert(b, c, d);
            case 4: return x.remove(b, c, d);
            case 5: return x.breakLine(b, c);
            case 6: return x.join(b);
            case 7: return x.setMark(b, c == 1);
            case 8: return x.shape(b, c, d, e);
            case 9: return x.hide(b, c, d, e);
            case 10: return x.show(b, c);
            case 11: return x.addVirtual(b, c, d, a[3]);
            case 12: return x.dropVirtual(b, c);
            case 13: return x.addFold(b, c, d);
            case 14: return x.setClosed(b, c, d == 1);
            case 15: return x.rows(b);
            case 16: return x.rowsOf(b, c);
            case 17: return x.clusters(b, c);
            case 18: return x.cell(b, c, d, e);
            case 19: return x.rowAt(b, c, d, e);
            case 20: return x.columnAt(b, c, d, e);
            case 21: return x.lineAt(b, c);
            case 22: return x.placeAt(b, c, d);
            case 23: return x.marksAt(b, c);
            case 24: return x.minimap(b, c);
            case 25: return x.open(b);
            case 26: return x.close(b);
            case 27: return x.share(b, c, d, e);
            case 28: return x.height(b);
            case 29: return x.put(b, c, d);
            case 30: return x.move(b, c);
            case 31: return x.play(b, c);
            case 32: return x.cursor(b, c);
            case 33: return x.scroll(b, c);
            case 34: return x.type(b, c);
            case 35: return x.typeBox(b, c, d, e, (int) a[4]);
            case 36: return x.draw(b);
            default: return x.shift(b);
        }
    }
}
