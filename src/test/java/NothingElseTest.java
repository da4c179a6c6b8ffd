/**
 * No call does anything beyond what the document says of it: cursors and tops go, wanted columns change, moves are
 * logged and rows are drawn by the calls of which that is told, and by no others. Each call is given to an object in
 * which such a change would be seen, with arguments that let it change nothing of what is looked at.
 */
final class NothingElseTest {
    private static final int LINES = 30;
    private static final int LAST = LINES - 1;

    public static void main(String[] args) {
        isAsMeant();
        textCalls();
        for (int pane = 0; pane < 2; pane++) {
            layerCalls(pane);
            rowCalls(pane);
        }
        stackCalls();
        cursorCalls();
        drawCalls();
        ownPane();
        Check.end();
    }

    /**
     * Three open panes over lines of one row. The pane 0 has its cursor and its top in invisible lines, and was drawn
     * with a shift; the pane 1 has its cursor ahead of its margin, another wanted column than that of its cursor, and
     * one row to draw. The last lines are not shown in these panes; the cursor of the pane 2 is there.
     */
    private static PaneLayers made() {
        PaneLayers x = new PaneLayers();
        for (int line = 0; line < LINES; line++) {
            if (line > 0) {
                x.breakLine(line - 1, line == 8 ? 1 : 2);
            }
            x.insert(line, 0, 'a' + line % 13);
            if (line != 7) {
                x.insert(line, 1, 'a' + line / 13);
            }
        }
        x.share(0, 1, 1, 4);
        x.open(1);
        x.share(1, 1, 1, 10);
        x.open(2);
        x.put(2, LAST, 0);
        x.move(2, PaneLayers.RIGHT);
        for (int pane = 0; pane < 2; pane++) {
            x.hide(pane, LAST - 1, 0, 1);
            x.addVirtual(pane, LAST - 1, 0, 'k');
            x.addFold(pane, LAST - 3, LAST - 2);
        }
        x.put(0, 8, 0);
        x.move(0, PaneLayers.RIGHT);
        x.draw(0);
        x.scroll(0, 1);
        x.draw(0);
        x.addFold(0, 4, 9);
        x.setClosed(0, 1, true);
        x.shape(1, 12, 1, 0);
        x.put(1, 3, 1);
        x.scroll(1, 5);
        x.move(1, PaneLayers.DOWN);
        x.move(1, PaneLayers.DOWN);
        x.draw(1);
        x.insert(8, 0, 'k');
        x.shape(1, 12, 1, 3);
        return x;
    }

    /** What is looked at; the object is of no use any more then. */
    private static String seen(PaneLayers x) {
        StringBuilder told = new StringBuilder("heights " + x.height(0) + " " + x.height(1));
        told.append(", shifts ").append(x.shift(0)).append(" ").append(x.shift(1));
        told.append(", cursors ").append(Check.cursor(x, 0)).append(" and ").append(Check.cursor(x, 1));
        for (int pane = 0; pane < 2; pane++) {
            told.append("\n  to draw ").append(x.draw(pane)).append(" with ").append(x.shift(pane));
        }
        x.setClosed(0, 1, false);
        told.append("\n  cursor 0 in visible lines ").append(Check.cursor(x, 0));
        told.append("\n  played ").append(x.play(0, 1)).append(" to ").append(Check.cursor(x, 1));
        told.append("\n  played ").append(x.play(1, 1)).append(" to ").append(Check.cursor(x, 1));
        return told.toString();
    }

    private static void isAsMeant() {
        Check.due("what is looked at", "heights 4 10, shifts 1 0, cursors 4 0 4 0 1 4 and 7 0 7 0 1 5"
            + "\n  to draw 4 with 0\n  to draw 1 with 0\n  cursor 0 in visible lines 8 2 8 2 1 6"
            + "\n  played 1 to 7 1 7 1 1 4\n  played 2 to 9 1 9 1 1 4", seen(made()));
    }

    private static void same(String what, Check.Use use) {
        PaneLayers x = made();
        use.on(x);
        Check.due(what + " does nothing else", seen(made()), seen(x));
    }

    private static void textCalls() {
        same("lines", x -> x.lines());
        same("length", x -> x.length(LAST));
        same("sign", x -> x.sign(LAST, 0));
        same("insert", x -> x.insert(LAST, 0, 'k'));
        same("remove", x -> x.remove(LAST, 0, 1));
        same("breakLine", x -> x.breakLine(LAST, 1));
        same("join", x -> x.join(LAST - 1));
        same("setMark", x -> x.setMark(LAST, true) ? 1 : 0);
    }

    private static void layerCalls(int pane) {
        String of = " of the pane " + pane;
        same("shape" + of, x -> {
            x.shape(pane, pane == 0 ? 20 : 12, pane, 3 * pane);
            return 0;
        });
        same("hide" + of, x -> x.hide(pane, LAST, 0, 1));
        same("show" + of, x -> x.show(pane, 0));
        same("addVirtual" + of, x -> x.addVirtual(pane, LAST, 0, 'k'));
        same("dropVirtual" + of, x -> x.dropVirtual(pane, 0));
        same("addFold" + of, x -> x.addFold(pane, LAST - 1, LAST));
        same("setClosed" + of, x -> x.setClosed(pane, 0, true) ? 1 : 0);
    }

    private static void rowCalls(int pane) {
        String of = " of the pane " + pane;
        same("rows" + of, x -> x.rows(pane));
        same("rowsOf" + of, x -> x.rowsOf(pane, 6));
        same("clusters" + of, x -> x.clusters(pane, 4));
        for (int what = 0; what < 6; what++) {
            int its = what;
            same("cell " + what + of, x -> x.cell(pane, 4, 0, its));
            same("cursor " + what + of, x -> x.cursor(pane, its));
        }
        for (int side = PaneLayers.BEFORE; side <= PaneLayers.BEHIND; side++) {
            int its = side;
            same("rowAt " + side + of, x -> x.rowAt(pane, 10, 1, its));
            same("columnAt " + side + of, x -> x.columnAt(pane, 10, 1, its));
        }
        same("lineAt" + of, x -> x.lineAt(pane, 4));
        same("placeAt" + of, x -> x.placeAt(pane, 4, 1));
        same("marksAt" + of, x -> x.marksAt(pane, 4));
        same("minimap" + of, x -> x.minimap(pane, 3));
    }

    private static void stackCalls() {
        same("open", x -> x.open(3));
        same("open and close", x -> x.open(3) + x.close(3));
        same("share of a closed pane", x -> x.share(3, 2, 2, 2));
        same("share of an open pane", x -> x.share(2, 2, 2, 2));
        same("share of the pane 0", x -> x.share(0, 2, 2, 4));
        same("share of the pane 1", x -> x.share(1, 2, 2, 10));
        for (int pane = 0; pane < 4; pane++) {
            int its = pane;
            same("height of the pane " + pane, x -> x.height(its));
        }
        same("close of the pane 0 and open", x -> x.close(0) + x.open(0));
        same("close of the pane 1 and open", x -> x.close(1) + x.open(1));
    }

    private static void cursorCalls() {
        same("put in another pane", x -> x.put(2, LAST, 1));
        for (int move = PaneLayers.LEFT; move <= PaneLayers.PAGE_DOWN; move++) {
            int its = move;
            same("move " + move + " in another pane", x -> x.move(2, its) ? 1 : 0);
        }
        for (int from = 0; from < 4; from++) {
            int its = from;
            same("play of the pane " + from + " on another pane", x -> x.play(its, 2));
        }
        for (int rows = -1; rows <= 1; rows++) {
            int its = rows;
            same("scroll by " + rows + " in another pane", x -> x.scroll(2, its));
        }
        same("type in another pane", x -> x.type(2, 'k'));
        for (int pane = 0; pane < 4; pane++) {
            int its = pane;
            same("typeBox in the pane " + pane, x -> x.typeBox(its, x.rows(its) - 1, 1, 0, 'k'));
        }
        same("cursor of another pane", x -> x.cursor(2, 5));
    }

    private static void drawCalls() {
        same("draw of another pane", x -> x.draw(2));
        for (int pane = 0; pane < 4; pane++) {
            int its = pane;
            same("shift of the pane " + pane, x -> x.shift(its));
        }
    }

    /** What calls of a pane that change its cursor, its top or what is drawn leave as it is in the same pane. */
    private static void ownPane() {
        PaneLayers x = made();
        x.draw(0);
        x.draw(1);
        x.setClosed(0, 1, false);
        Check.due("draw lets cursor and top be", "8 2 8 2 1 6", Check.cursor(x, 0));
        Check.due("draw does not bring the top to the cursor", "7 0 7 0 1 5", Check.cursor(x, 1));
        PaneLayers y = made();
        Check.due("a row that is shown is typed into", 2, y.typeBox(1, 9, 2, 0, 'k'));
        Check.due("typeBox does not bring the top to the cursor", "7 0 7 0 1 5", Check.cursor(y, 1));
        Check.due("typed at the place of the cursor", 1, y.typeBox(1, 7, 1, 0, 'k'));
        Check.due("nor then: the cursor was not typed at", "7 0 7 0 1 5", Check.cursor(y, 1));
        y.insert(7, 0, 'k');
        Check.due("insert does not, either", "7 0 7 0 1 5", Check.cursor(y, 1));
        Check.due("type does", 1, y.type(1, 'k'));
        Check.due("where the cursor is then", "7 1 7 1 1 4", Check.cursor(y, 1));
        PaneLayers z = made();
        z.move(1, PaneLayers.HOME);
        Check.due("a move that goes nowhere lets the top be", "7 0 7 0 0 5", Check.cursor(z, 1));
        z.move(1, PaneLayers.END);
        Check.due("another one does not", "7 1 7 1 1 4", Check.cursor(z, 1));
        PaneLayers w = made();
        Check.due("a scroll leaves a wanted column as it is", 4, w.scroll(1, -1));
        Check.due("also where the cursor stays", "7 0 7 0 1 4", Check.cursor(w, 1));
        Check.due("or goes", 5, w.scroll(1, 1));
        Check.due("to the margin", "8 1 8 1 1 5", Check.cursor(w, 1));
    }
}
