import java.util.ArrayList;
import java.util.List;

/**
 * What the calls refuse, promise by promise: values at the edge are taken, those just beside it are refused; of several
 * reasons the one comes that the document lists first; and a refused call leaves all as it was.
 */
final class RefusalTest {
    private static final Class<?> INDEX = IndexOutOfBoundsException.class;
    private static final Class<?> ARGUMENT = IllegalArgumentException.class;
    private static final Class<?> STATE = IllegalStateException.class;
    private static final int NONE = PaneLayers.NONE;
    private static final int LEAST = Integer.MIN_VALUE;
    private static final int MOST = Integer.MAX_VALUE;
    private static final long[] NO_PANES = {-1, 4, LEAST, MOST};
    private static final long[] NO_LINES = {-1, 3, LEAST, MOST};
    private static final long[] NO_SIGNS = {-1, 0, 8, 10, 31, 127, 'k' + 256, LEAST, MOST};
    private static final long[] CLOSED_PANES = {2, 3};

    /** A call with all its arguments. */
    private interface Call {
        long on(PaneLayers x, long[] arguments);
    }

    /** A value of an argument that is refused, and with what. */
    private static final class Bad {
        final int argument;
        final Class<?> want;
        final long value;

        Bad(int argument, Class<?> want, long value) {
            this.argument = argument;
            this.want = want;
            this.value = value;
        }
    }

    /** A call, arguments with which it is taken, and what is put in the place of one of them. */
    private static final class Trial {
        private final String name;
        private final Call call;
        private final long[] good;
        private final List<long[]> edges = new ArrayList<>();
        private final List<Bad> bad = new ArrayList<>();
        /** The argument that is refused ahead of all but no such pane. */
        private int ahead = NONE;

        Trial(String name, Call call, long... good) {
            this.name = name;
            this.call = call;
            this.good = good;
        }

        Trial edge(int argument, long... values) {
            for (long value : values) {
                edges.add(with(good, argument, value));
            }
            return this;
        }

        Trial bad(int argument, Class<?> want, long... values) {
            for (long value : values) {
                bad.add(new Bad(argument, want, value));
            }
            return this;
        }

        Trial pane() {
            return bad(0, INDEX, NO_PANES).edge(0, 0);
        }

        Trial openPane() {
            return bad(0, INDEX, NO_PANES).bad(0, STATE, CLOSED_PANES).edge(0, 0, 1);
        }

        Trial ahead(int argument) {
            ahead = argument;
            return this;
        }

        void check() {
            taken(good, RefusalTest::busy);
            for (long[] edge : edges) {
                taken(edge, RefusalTest::busy);
            }
            for (Bad one : bad) {
                refused(one.want, RefusalTest::busy, with(good, one.argument, one.value));
                for (Bad other : bad) {
                    if (other.argument > one.argument) {
                        long[] both = with(with(good, one.argument, one.value), other.argument, other.value);
                        refused(rank(one) <= rank(other) ? one.want : other.want, RefusalTest::busy, both);
                    }
                }
            }
        }

        /** In this state the call is refused, but for other reasons if there are some. */
        void check(Check.Recipe recipe) {
            refused(STATE, recipe, good);
            for (Bad one : bad) {
                if (one.want != STATE) {
                    refused(one.want, recipe, with(good, one.argument, one.value));
                }
            }
        }

        private int rank(Bad one) {
            if (one.argument == 0 && one.want == INDEX) {
                return 0;
            }
            return one.argument == ahead ? 1 : one.want == INDEX ? 2 : one.want == ARGUMENT ? 3 : 4;
        }

        private String told(long[] arguments) {
            return name + java.util.Arrays.toString(arguments);
        }

        private void taken(long[] arguments, Check.Recipe recipe) {
            Check.taken(told(arguments), recipe, x -> call.on(x, arguments));
        }

        private void refused(Class<?> want, Check.Recipe recipe, long[] arguments) {
            Check.refused(told(arguments), want, recipe, x -> call.on(x, arguments));
        }
    }

    public static void main(String[] args) {
        texts();
        panes();
        spansAndVirtuals();
        folds();
        rows();
        places();
        stack();
        cursors();
        typing();
        drawing();
        Check.end();
    }

    private static long[] with(long[] arguments, int argument, long value) {
        long[] told = arguments.clone();
        told[argument] = value;
        return told;
    }

    private static long of(boolean answer) {
        return answer ? 1 : 0;
    }

    /** Three lines, three rows in the pane 0, two open panes, and something of all that an object has. */
    private static PaneLayers busy() {
        PaneLayers x = Check.withLines("abcdef", "n o", "ghi");
        x.shape(0, 10, 2, 1);
        x.open(1);
        x.share(1, 2, 4, NONE);
        x.share(2, 3, 5, 6);
        x.hide(0, 0, 1, 2);
        x.hide(0, 0, 3, 4);
        x.hide(2, 1, 0, 1);
        x.addVirtual(0, 1, 1, Check.virtual("kl"));
        x.addVirtual(0, 0, 0, 'm');
        x.addFold(0, 1, 2);
        x.addFold(1, 0, 1);
        x.setClosed(1, 0, true);
        x.setMark(1, true);
        x.put(0, 0, 2);
        x.move(0, PaneLayers.RIGHT);
        x.move(1, PaneLayers.DOWN);
        x.move(0, PaneLayers.LEFT);
        x.draw(0);
        x.scroll(0, 1);
        x.draw(0);
        return x;
    }

    private static PaneLayers withFullLine() {
        PaneLayers x = busy();
        for (int i = 0; i < 74; i++) {
            x.insert(0, 0, 'a');
        }
        x.put(0, 0, 7);
        return x;
    }

    private static PaneLayers withAllLines() {
        PaneLayers x = busy();
        for (int i = 0; i < 57; i++) {
            x.breakLine(2, 0);
        }
        return x;
    }

    private static PaneLayers withAllLayers() {
        PaneLayers x = busy();
        for (int i = 2; i < 6; i++) {
            x.hide(0, 0, 5, 6);
            x.addVirtual(0, 2, 0, 'a');
        }
        for (int i = 1; i < 6; i++) {
            x.addFold(0, 0, 1);
        }
        return x;
    }

    private static void texts() {
        new Trial("length", (x, a) -> x.length((int) a[0]), 0).edge(0, 2).bad(0, INDEX, NO_LINES).check();
        new Trial("sign", (x, a) -> x.sign((int) a[0], (int) a[1]), 0, 1).edge(0, 2).bad(0, INDEX, NO_LINES)
            .edge(1, 0, 5).bad(1, ARGUMENT, -1, 6, LEAST, MOST).check();

        Trial insert = new Trial("insert", (x, a) -> x.insert((int) a[0], (int) a[1], (int) a[2]), 0, 1, 'k')
            .edge(0, 2).bad(0, INDEX, NO_LINES).edge(1, 0, 6).bad(1, ARGUMENT, -1, 81, LEAST, MOST)
            .edge(2, 9, 32, 126).bad(2, ARGUMENT, NO_SIGNS);
        insert.check();
        insert.check(RefusalTest::withFullLine);
        insert.bad(1, ARGUMENT, 7).check();

        new Trial("remove", (x, a) -> x.remove((int) a[0], (int) a[1], (int) a[2]), 0, 1, 3)
            .bad(0, INDEX, NO_LINES).edge(0, 2).edge(1, 0, 2).bad(1, ARGUMENT, -1, 3, 4, 6, LEAST, MOST)
            .edge(2, 2, 6).bad(2, ARGUMENT, -1, 0, 1, 7, LEAST, MOST).check();

        Trial breakLine = new Trial("breakLine", (x, a) -> x.breakLine((int) a[0], (int) a[1]), 0, 3)
            .edge(0, 2).bad(0, INDEX, -1, 60, LEAST, MOST).edge(1, 0, 6).bad(1, ARGUMENT, -1, 7, LEAST, MOST);
        breakLine.check();
        new Trial("breakLine", (x, a) -> x.breakLine((int) a[0], (int) a[1]), 0, 3).bad(0, INDEX, 3).check();
        breakLine.check(RefusalTest::withAllLines);

        Trial join = new Trial("join", (x, a) -> x.join((int) a[0]), 0).edge(0, 1).bad(0, INDEX, -1, 2, 3, LEAST, MOST);
        join.check();
        join.check(() -> withNextOf(75));
        Check.taken("join of 6 and 74", () -> withNextOf(74), x -> x.join(0));
        Check.refused("join of the only line", INDEX, PaneLayers::new, x -> x.join(0));

        new Trial("setMark", (x, a) -> of(x.setMark((int) a[0], true)), 0).edge(0, 2).bad(0, INDEX, NO_LINES).check();
        new Trial("setMark off", (x, a) -> of(x.setMark((int) a[0], false)), 0).edge(0, 2).bad(0, INDEX, NO_LINES)
            .check();
    }

    private static PaneLayers withNextOf(int signs) {
        PaneLayers x = busy();
        for (int i = x.length(1); i < signs; i++) {
            x.insert(1, 0, 'b');
        }
        return x;
    }

    private static void panes() {
        new Trial("shape", (x, a) -> {
            x.shape((int) a[0], (int) a[1], (int) a[2], (int) a[3]);
            return 0;
        }, 0, 11, 1, 2).pane().edge(0, 3).edge(1, 10, 40).bad(1, ARGUMENT, -1, 0, 9, 41, LEAST, MOST)
            .edge(2, 0, 4).bad(2, ARGUMENT, -1, 5, LEAST, MOST).edge(3, 0, 3).bad(3, ARGUMENT, -1, 4, LEAST, MOST).check();
    }

    private static void spansAndVirtuals() {
        Trial hide = new Trial("hide", (x, a) -> x.hide((int) a[0], (int) a[1], (int) a[2], (int) a[3]), 0, 0, 1, 3)
            .pane().edge(0, 3).edge(1, 2).bad(1, INDEX, NO_LINES).edge(2, 0, 2)
            .bad(2, ARGUMENT, -1, 3, 4, LEAST, MOST).edge(3, 2, 6).bad(3, ARGUMENT, -1, 0, 1, 7, LEAST, MOST);
        hide.check();
        hide.check(RefusalTest::withAllLayers);
        new Trial("show", (x, a) -> x.show((int) a[0], (int) a[1]), 0, 0).pane().edge(1, 1)
            .bad(1, INDEX, -1, 2, 6, LEAST, MOST).check();
        new Trial("show where there is none", (x, a) -> x.show((int) a[0], (int) a[1]), 2, 0)
            .bad(0, INDEX, 1, 3).check();

        long eight = Check.virtual("}}}}}}}}");
        long seven = eight >>> 8;
        Trial add = new Trial("addVirtual", (x, a) -> x.addVirtual((int) a[0], (int) a[1], (int) a[2], a[3]), 0, 1, 1, 'k')
            .pane().edge(0, 3).edge(1, 0, 2).bad(1, INDEX, NO_LINES).edge(2, 0, 3).bad(2, ARGUMENT, -1, 4, LEAST, MOST)
            .edge(3, ' ', '}', seven, eight, Check.virtual("        "))
            .bad(3, ARGUMENT, 0, 1, 9, 31, 126, 127, 128, 255, 'k' << 8, 'k' | 'k' << 16, 'k' | 31 << 8, 'k' | 126 << 8)
            .bad(3, ARGUMENT, (long) 'k' << 56, seven | 31L << 56, seven | 126L << 56, seven | 255L << 56)
            .bad(3, ARGUMENT, eight & ~255L, eight & ~(255L << 24), -1, Long.MIN_VALUE, 'k' | Long.MIN_VALUE);
        add.check();
        add.check(RefusalTest::withAllLayers);
        new Trial("dropVirtual", (x, a) -> x.dropVirtual((int) a[0], (int) a[1]), 0, 0).pane().edge(1, 1)
            .bad(1, ARGUMENT, -1, 2, 6, LEAST, MOST).check();
        new Trial("dropVirtual where there is none", (x, a) -> x.dropVirtual((int) a[0], (int) a[1]), 0, 0)
            .bad(0, ARGUMENT, 1, 2, 3).check();
    }

    private static void folds() {
        Trial add = new Trial("addFold", (x, a) -> x.addFold((int) a[0], (int) a[1], (int) a[2]), 0, 1, 2).pane()
            .edge(0, 3).edge(1, 0).bad(1, INDEX, NO_LINES).bad(1, ARGUMENT, 2).bad(2, INDEX, NO_LINES)
            .bad(2, ARGUMENT, 0, 1);
        add.check();
        add.check(RefusalTest::withAllLayers);
        Check.taken("a fold from the first to the last line", RefusalTest::busy, x -> x.addFold(0, 0, 2));
        new Trial("setClosed", (x, a) -> of(x.setClosed((int) a[0], (int) a[1], true)), 0, 0).pane()
            .bad(1, ARGUMENT, -1, 1, 6, LEAST, MOST).check();
        new Trial("setClosed off", (x, a) -> of(x.setClosed((int) a[0], (int) a[1], false)), 1, 0)
            .bad(0, ARGUMENT, 2, 3).bad(1, ARGUMENT, -1, 1).check();
    }

    private static void rows() {
        new Trial("rows", (x, a) -> x.rows((int) a[0]), 0).pane().edge(0, 1, 2, 3).check();
        new Trial("rowsOf", (x, a) -> x.rowsOf((int) a[0], (int) a[1]), 0, 0).pane().edge(0, 3).edge(1, 2)
            .bad(1, INDEX, NO_LINES).check();
        new Trial("clusters", (x, a) -> x.clusters((int) a[0], (int) a[1]), 0, 0).pane().edge(0, 3).edge(1, 2)
            .bad(1, INDEX, -1, 3, LEAST, MOST).check();
        new Trial("clusters of a pane with two rows", (x, a) -> x.clusters(1, (int) a[0]), 1).bad(0, INDEX, -1, 2).check();
        new Trial("cell", (x, a) -> x.cell((int) a[0], (int) a[1], (int) a[2], (int) a[3]), 0, 0, 0, 1).pane()
            .edge(0, 3).edge(1, 2).bad(1, INDEX, -1, 3, LEAST, MOST).edge(2, 4).bad(2, INDEX, -1, 5, LEAST, MOST)
            .edge(3, 0, 5).bad(3, ARGUMENT, -1, 6, LEAST, MOST).check();
        Check.refused("a cell of a row without clusters", INDEX, PaneLayers::new, x -> x.cell(0, 0, 0, 0));
        Check.refused("no cell, and no what", INDEX, PaneLayers::new, x -> x.cell(0, 0, 0, 6));
    }

    private static void places() {
        Trial rowAt = new Trial("rowAt", (x, a) -> x.rowAt((int) a[0], (int) a[1], (int) a[2], (int) a[3]), 0, 0, 1, 0);
        Trial columnAt = new Trial("columnAt", (x, a) -> x.columnAt((int) a[0], (int) a[1], (int) a[2], (int) a[3]),
            0, 0, 1, 0);
        for (Trial down : new Trial[] {rowAt, columnAt}) {
            down.pane().edge(0, 3).edge(1, 2).bad(1, INDEX, NO_LINES).edge(2, 0, 6)
                .bad(2, ARGUMENT, -1, 7, LEAST, MOST).edge(3, 0, 1).bad(3, ARGUMENT, -1, 2, LEAST, MOST).check();
        }
        new Trial("rowAt of an invisible line", (x, a) -> x.rowAt(1, 1, (int) a[0], (int) a[1]), 3, 1)
            .bad(0, ARGUMENT, -1, 4).bad(1, ARGUMENT, -1, 2).check();
        new Trial("columnAt of an invisible line", (x, a) -> x.columnAt(1, 1, (int) a[0], (int) a[1]), 3, 1)
            .bad(0, ARGUMENT, -1, 4).bad(1, ARGUMENT, -1, 2).check();
        new Trial("lineAt", (x, a) -> x.lineAt((int) a[0], (int) a[1]), 0, 0).pane().edge(0, 3).edge(1, 2)
            .bad(1, INDEX, -1, 3, LEAST, MOST).check();
        new Trial("placeAt", (x, a) -> x.placeAt((int) a[0], (int) a[1], (int) a[2]), 0, 0, 1).pane().edge(0, 3)
            .edge(1, 2).bad(1, INDEX, -1, 3, LEAST, MOST).edge(2, 0, 39).bad(2, ARGUMENT, -1, 40, LEAST, MOST).check();
        new Trial("marksAt", (x, a) -> x.marksAt((int) a[0], (int) a[1]), 0, 0).pane().edge(0, 3).edge(1, 2)
            .bad(1, INDEX, -1, 3, LEAST, MOST).check();
        new Trial("minimap", (x, a) -> x.minimap((int) a[0], (int) a[1]), 0, 1).pane().edge(0, 3).edge(1, 0, 7)
            .bad(1, ARGUMENT, -1, 8, LEAST, MOST).check();
    }

    private static void stack() {
        Trial open = new Trial("open", (x, a) -> x.open((int) a[0]), 2).edge(0, 3).bad(0, INDEX, NO_PANES)
            .bad(0, STATE, 0, 1);
        open.check();
        open.check(RefusalTest::withoutRoom);
        Trial close = new Trial("close", (x, a) -> x.close((int) a[0]), 0).edge(0, 1).bad(0, INDEX, NO_PANES)
            .bad(0, STATE, CLOSED_PANES);
        close.check();
        close.check(RefusalTest::withOneOpen);
        Check.refused("close the only one", STATE, PaneLayers::new, x -> x.close(0));
        Trial share = new Trial("share", (x, a) -> x.share((int) a[0], (int) a[1], (int) a[2], (int) a[3]), 1, 2, 6, NONE)
            .pane().edge(0, 3).edge(1, 1, 9).bad(1, ARGUMENT, -1, 0, 10, LEAST, MOST)
            .edge(2, 1, 8).bad(2, ARGUMENT, -1, 0, 9, LEAST, MOST)
            .edge(3, 1, 16).bad(3, ARGUMENT, -2, 0, 17, LEAST, MOST);
        share.check();
        share.check(RefusalTest::withoutRoom);
        new Trial("height", (x, a) -> x.height((int) a[0]), 0).pane().edge(0, 1, 2, 3).check();
    }

    /** The open panes 0 and 1 take 16 and 4 of the 24 rows, 3 a third one. */
    private static PaneLayers withoutRoom() {
        PaneLayers x = busy();
        x.share(0, 1, 1, 16);
        x.open(3);
        return x;
    }

    private static PaneLayers withOneOpen() {
        PaneLayers x = busy();
        x.close(1);
        return x;
    }

    private static void cursors() {
        new Trial("put", (x, a) -> x.put((int) a[0], (int) a[1], (int) a[2]), 0, 0, 2).openPane()
            .edge(1, 1, 2).bad(1, INDEX, NO_LINES).edge(2, 0, 6).bad(2, ARGUMENT, -1, 7, LEAST, MOST).check();
        new Trial("put in a pane with a closed fold", (x, a) -> x.put(1, (int) a[0], (int) a[1]), 0, 3).edge(0, 2)
            .bad(0, INDEX, NO_LINES).bad(0, STATE, 1).bad(1, ARGUMENT, -1, 7).check();
        new Trial("move", (x, a) -> of(x.move((int) a[0], (int) a[1])), 0, 1).openPane().edge(1, 0, 7)
            .bad(1, ARGUMENT, -1, 8, LEAST, MOST).check();
        new Trial("play", (x, a) -> x.play((int) a[0], (int) a[1]), 0, 1).pane().edge(0, 1, 2, 3).edge(1, 0)
            .bad(1, INDEX, NO_PANES).bad(1, STATE, CLOSED_PANES).check();
        new Trial("cursor", (x, a) -> x.cursor((int) a[0], (int) a[1]), 0, 1).pane().edge(0, 1, 2, 3).edge(1, 0, 5)
            .bad(1, ARGUMENT, -1, 6, LEAST, MOST).check();
        new Trial("scroll", (x, a) -> x.scroll((int) a[0], (int) a[1]), 0, 1).openPane().edge(1, -100, 100)
            .bad(1, ARGUMENT, -101, 101, LEAST, MOST).check();
    }

    private static void typing() {
        Trial type = new Trial("type", (x, a) -> x.type((int) a[0], (int) a[1]), 0, 'k').openPane().edge(1, 9, 32, 126)
            .bad(1, ARGUMENT, NO_SIGNS);
        type.check();
        type.check(RefusalTest::withFullLine);
        Trial box = box(0, 0, 2, 3, 'k').pane().edge(0, 2, 3).edge(1, 1).bad(1, INDEX, -2, -1, LEAST, MOST)
            .edge(2, 1, 3).bad(2, ARGUMENT, -1, 0, 11, LEAST, MOST).ahead(2)
            .edge(3, 0, 39).bad(3, ARGUMENT, -1, 40, LEAST, MOST).edge(4, 9, 32, 126).bad(4, ARGUMENT, NO_SIGNS);
        box.check();
        box.check(RefusalTest::withFullLine);
        box.bad(1, INDEX, 2, 3).check();
        box(0, 0, 3, 0, 'k').bad(2, INDEX, 4, 10).bad(3, ARGUMENT, -1, 40).bad(4, ARGUMENT, 8).check();
        box(0, 2, 1, 0, 'k').bad(1, INDEX, 3).bad(2, INDEX, 2, 10).check();
        Check.taken("typeBox of 10 rows", RefusalTest::withAllLines, x -> x.typeBox(0, 50, 10, 0, 'k'));
        Check.refused("typeBox of 10 rows", INDEX, RefusalTest::withAllLines, x -> x.typeBox(0, 51, 10, 0, 'k'));
        Check.refused("typeBox of 11 rows", ARGUMENT, RefusalTest::withAllLines, x -> x.typeBox(0, 0, 11, 0, 'k'));
    }

    private static Trial box(long... good) {
        return new Trial("typeBox",
            (x, a) -> x.typeBox((int) a[0], (int) a[1], (int) a[2], (int) a[3], (int) a[4]), good);
    }

    private static void drawing() {
        new Trial("draw", (x, a) -> x.draw((int) a[0]), 0).openPane().check();
        new Trial("shift", (x, a) -> x.shift((int) a[0]), 0).pane().edge(0, 1, 2, 3).check();
    }
}
