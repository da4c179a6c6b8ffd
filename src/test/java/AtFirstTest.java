/** What an object has at first (promise 1, and "at first" in the terms), and how many of each thing there can be. */
final class AtFirstTest {
    private static final int NONE = PaneLayers.NONE;
    private static final int PANES = 4;

    public static void main(String[] args) {
        text();
        shapes();
        margins();
        weightsAndLeastHeights();
        layers();
        cursorsAndTops();
        nothingLogged();
        nothingDrawn();
        mostLines();
        mostSigns();
        mostLayers();
        Check.end();
    }

    private static void text() {
        PaneLayers x = new PaneLayers();
        Check.due("one line", 1, x.lines());
        Check.due("which is empty", 0, x.length(0));
        Check.due("and not marked", false, x.setMark(0, false));
        for (int pane = 0; pane < PANES; pane++) {
            Check.due("one row", 1, x.rows(pane));
            Check.due("of the line 0", 0, x.lineAt(pane, 0));
            Check.due("without clusters", 0, x.clusters(pane, 0));
        }
        Check.due("the pane 0 is open", 24, x.height(0));
        Check.due("which can be put", 0, x.put(0, 0, 0));
        for (int pane = 1; pane < PANES; pane++) {
            int its = pane;
            Check.due("the pane " + pane + " is not", 0, x.height(pane));
            Check.state("which can't be put", () -> x.put(its, 0, 0));
        }
    }

    private static void shapes() {
        for (int pane = 0; pane < PANES; pane++) {
            PaneLayers x = Check.withLines("a".repeat(20), "a".repeat(21));
            Check.due("20 columns are one row", 1, x.rowsOf(pane, 0));
            Check.due("21 are two", 2, x.rowsOf(pane, 1));
            Check.due("the second row begins at the column 0", 0, x.cell(pane, 2, 0, 2));
        }
    }

    private static void margins() {
        for (int pane = 0; pane < PANES; pane++) {
            PaneLayers x = new PaneLayers();
            for (int line = 1; line < 30; line++) {
                x.breakLine(0, 0);
            }
            if (pane > 0) {
                x.open(pane);
            }
            int height = pane == 0 ? 24 : 12;
            x.put(pane, height - 1, 0);
            Check.due("the last row that is shown is no margin of " + pane, 0, x.cursor(pane, 5));
            x.put(pane, height, 0);
            Check.due("the one behind it isn't shown", 1, x.cursor(pane, 5));
            x.put(pane, 1, 0);
            Check.due("the first row is no margin", 1, x.cursor(pane, 5));
            x.put(pane, 0, 0);
            Check.due("the one ahead of it isn't shown", 0, x.cursor(pane, 5));
        }
    }

    private static void weightsAndLeastHeights() {
        PaneLayers x = new PaneLayers();
        Check.due("the pane 0 is not locked, and weighs as much as the pane 1", 12, x.open(1));
        Check.due("and as the pane 2", 8, x.open(2));
        Check.due("and as the pane 3", 6, x.open(3));
        for (int pane = 0; pane < PANES; pane++) {
            int other = pane == 0 ? 1 : 0;
            PaneLayers z = new PaneLayers();
            z.share(other, 2, 1, NONE);
            z.open(Math.max(pane, other));
            Check.due("the weight of " + pane + " is half of 2", 8, z.height(pane));
        }
        for (int pane = 0; pane < PANES; pane++) {
            PaneLayers y = new PaneLayers();
            for (int other = 0; other < PANES; other++) {
                if (other != pane) {
                    y.share(other, 9, 1, NONE);
                    if (other > 0) {
                        y.open(other);
                    }
                }
            }
            if (pane > 0) {
                y.open(pane);
            }
            Check.due("the least height of " + pane, 3, y.height(pane));
        }
    }

    private static void layers() {
        for (int pane = 0; pane < PANES; pane++) {
            int its = pane;
            PaneLayers x = Check.withLines("ab", "cd");
            Check.range("no span", () -> x.show(its, 0));
            Check.argument("no virtual text", () -> x.dropVirtual(its, 0));
            Check.argument("no fold", () -> x.setClosed(its, 0, true) ? 1 : 0);
            Check.due("the first span", 1, x.hide(pane, 0, 0, 1));
            Check.due("the first virtual text", 1, x.addVirtual(pane, 0, 0, 'k'));
            Check.due("the first fold", 1, x.addFold(pane, 0, 1));
            Check.due("is open", false, x.setClosed(pane, 0, true));
        }
    }

    private static void cursorsAndTops() {
        PaneLayers x = new PaneLayers();
        for (int pane = 0; pane < PANES; pane++) {
            Check.due("the cursor and the top of " + pane, "0 0 0 0 0 0", Check.cursor(x, pane));
        }
        x.type(0, 'a');
        for (int pane = 1; pane < PANES; pane++) {
            Check.due("the place 0 stays ahead of what comes there", "0 0 0 0 0 0", Check.cursor(x, pane));
        }
    }

    private static void nothingLogged() {
        PaneLayers x = Check.withLines("ab", "cd");
        for (int pane = 0; pane < PANES; pane++) {
            Check.due("no move of " + pane, 0, x.play(pane, 0));
        }
        Check.due("the cursor is where it was", "0 0 0 0 0 0", Check.cursor(x, 0));
    }

    private static void nothingDrawn() {
        for (int pane = 0; pane < PANES; pane++) {
            PaneLayers x = new PaneLayers();
            if (pane > 0) {
                x.open(pane);
            }
            Check.due("the shift", 0, x.shift(pane));
            Check.due("all rows have to be drawn", pane == 0 ? 24 : 12, x.draw(pane));
            Check.due("with the shift", 0, x.shift(pane));
        }
    }

    private static void mostLines() {
        PaneLayers x = new PaneLayers();
        for (int lines = 2; lines <= 60; lines++) {
            Check.due("lines", lines, x.breakLine(lines - 2, 0));
            Check.due("lines", lines, x.lines());
        }
        Check.state("a 61st line", () -> x.breakLine(59, 0));
        Check.state("a 61st line ahead of all", () -> x.breakLine(0, 0));
        Check.due("the last line can be used", 1, x.insert(59, 0, 'k'));
        Check.due("rows", 60, x.rows(0));
        Check.due("a line goes", 1, x.join(58));
        Check.due("then one more can come", 60, x.breakLine(58, 0));
        for (int lines = 59; lines >= 1; lines--) {
            Check.due("join", lines == 1 ? 1 : 0, x.join(0));
            Check.due("lines", lines, x.lines());
        }
        Check.range("the last line can't be joined", () -> x.join(0));
    }

    private static void mostSigns() {
        PaneLayers x = new PaneLayers();
        for (int signs = 1; signs <= 80; signs++) {
            Check.due("signs", signs, x.insert(0, signs - 1, signs % 2 == 0 ? 'k' : 'n'));
        }
        Check.state("an 81st sign", () -> x.insert(0, 80, 'k'));
        Check.state("an 81st sign ahead of all", () -> x.insert(0, 0, 'k'));
        Check.due("the last sign", 'k', x.sign(0, 79));
        Check.due("signs", 80, x.length(0));
        Check.due("a sign goes", 79, x.remove(0, 0, 1));
        Check.due("then one more can come", 80, x.insert(0, 79, 'm'));
        Check.due("the place behind the last sign", 2, x.breakLine(0, 80));
        Check.due("80 and none", 80, x.join(0));
        Check.due("all go", 0, x.remove(0, 0, 80));
        PaneLayers y = new PaneLayers();
        for (int signs = 1; signs <= 80; signs++) {
            Check.due("signs that are typed", signs, y.type(0, 'k'));
        }
        Check.state("an 81st sign", () -> y.type(0, 'k'));
        Check.state("an 81st sign", () -> y.typeBox(0, 0, 1, 0, 'k'));
        Check.due("the place", 80, y.cursor(0, 1));
        Check.due("a sign goes", 79, y.remove(0, 0, 1));
        Check.due("then one more can come", 1, y.typeBox(0, 0, 1, 0, 'k'));
    }

    private static void mostLayers() {
        PaneLayers x = Check.withLines("ab", "cd");
        for (int pane = 0; pane < PANES; pane++) {
            int its = pane;
            for (int many = 1; many <= 6; many++) {
                Check.due("spans of " + pane, many, x.hide(pane, 0, 0, 1));
                Check.due("virtual texts of " + pane, many, x.addVirtual(pane, 0, 0, 'k'));
                Check.due("folds of " + pane, many, x.addFold(pane, 0, 1));
            }
            Check.state("a 7th span", () -> x.hide(its, 0, 0, 1));
            Check.state("a 7th virtual text", () -> x.addVirtual(its, 0, 0, 'k'));
            Check.state("a 7th fold", () -> x.addFold(its, 0, 1));
            Check.due("show one", 5, x.show(pane, 5));
            Check.due("drop one", 5, x.dropVirtual(pane, 5));
            Check.due("then there is room for a span", 6, x.hide(pane, 0, 0, 1));
            Check.due("then there is room for a virtual text", 6, x.addVirtual(pane, 0, 0, 'k'));
        }
        x.join(0);
        x.breakLine(0, 2);
        for (int pane = 0; pane < PANES; pane++) {
            Check.due("folds that are removed leave room", 1, x.addFold(pane, 0, 1));
        }
        x.remove(0, 0, 1);
        for (int pane = 0; pane < PANES; pane++) {
            Check.due("spans that are removed leave room", 1, x.hide(pane, 0, 0, 1));
            int its = pane;
            Check.state("virtual texts are never removed by edits", () -> x.addVirtual(its, 0, 0, 'k'));
        }
    }
}
