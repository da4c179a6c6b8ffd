/** Promises 38 and 39: rows to draw again, and the shift with which they are drawn. */
final class DrawTest {
    public static void main(String[] args) {
        changes();
        shifts();
        nearest();
        behindTheLast();
        marks();
        whatIsCompared();
        heights();
        errors();
        Check.end();
    }

    /** An object with lines that all differ. */
    private static PaneLayers withMany(int lines) {
        PaneLayers x = new PaneLayers();
        for (int line = 0; line < lines; line++) {
            if (line > 0) {
                x.breakLine(line - 1, 2);
            }
            Check.write(x, line, "" + (char) ('a' + line % 13) + (char) ('a' + line / 13));
        }
        return x;
    }

    private static void draw(PaneLayers x, String what, int due, int shift) {
        Check.due("draw: " + what, due, x.draw(0));
        Check.due("shift: " + what, shift, x.shift(0));
    }

    private static void changes() {
        PaneLayers x = withMany(30);
        Check.due("no shift", 0, x.shift(0));
        draw(x, "nothing is drawn", 24, 0);
        draw(x, "the same", 0, 0);
        x.insert(3, 0, 'a');
        x.insert(10, 0, 'a');
        x.insert(25, 0, 'a');
        draw(x, "two lines", 2, 0);
        x.open(1);
        Check.due("another pane", 12, x.draw(1));
        Check.due("another pane again", 0, x.draw(1));
        x.remove(3, 0, 1);
        draw(x, "fewer rows", 1, 0);
        Check.due("another pane", 1, x.draw(1));
    }

    private static void shifts() {
        PaneLayers x = withMany(40);
        draw(x, "first", 24, 0);
        x.scroll(0, 2);
        draw(x, "two rows later", 2, 2);
        Check.due("shift is not asked away", 2, x.shift(0));
        draw(x, "the same", 0, 0);
        x.scroll(0, -1);
        draw(x, "one row earlier", 1, -1);
        x.breakLine(0, 0);
        Check.due("the first row is another one", 2, x.cursor(0, 5));
        draw(x, "a line ahead of the top", 0, 0);
        x.scroll(0, 23);
        draw(x, "all but one", 23, 23);
        x.scroll(0, -24);
        draw(x, "all", 24, 0);
        x.insert(5, 0, 'a');
        x.scroll(0, 1);
        draw(x, "a change and a shift", 2, 1);
        PaneLayers y = withMany(40);
        draw(y, "first", 24, 0);
        y.breakLine(0, 0);
        Check.due("the top stays at the beginning", 0, y.cursor(0, 5));
        draw(y, "a line behind the top", 1, -1);
    }

    private static void nearest() {
        PaneLayers x = Check.withLines("a", "b", "a", "b", "a", "b");
        x.share(0, 1, 1, 3);
        x.open(1);
        draw(x, "first", 3, 0);
        x.scroll(0, 1);
        draw(x, "above 0 of two", 1, 1);
        x.scroll(0, 1);
        draw(x, "again", 1, 1);
        x.scroll(0, -2);
        draw(x, "the nearest one", 0, 0);
        PaneLayers y = withMany(20);
        y.share(0, 1, 1, 3);
        y.open(1);
        draw(y, "first", 3, 0);
        y.remove(0, 0, 2);
        y.insert(0, 0, 'b');
        y.insert(0, 1, 'a');
        draw(y, "both rows of two", 1, 0);
    }

    private static void behindTheLast() {
        PaneLayers x = Check.withLines("a", "b");
        draw(x, "rows behind the last are drawn, too", 24, 0);
        draw(x, "they are the same", 0, 0);
        x.breakLine(1, 1);
        draw(x, "an empty row is another one", 1, 0);
        x.join(1);
        draw(x, "and back", 1, 0);
        x.scroll(0, 1);
        draw(x, "one more behind the last", 1, 1);
        x.scroll(0, -1);
        draw(x, "one less", 1, -1);
    }

    private static void marks() {
        PaneLayers x = Check.withLines("aaaaaaaaaaaa", "b", "c");
        x.shape(0, 10, 0, 0);
        draw(x, "first", 24, 0);
        x.setMark(0, true);
        draw(x, "a mark at the first row of its line", 1, 0);
        x.setMark(1, true);
        x.setMark(2, true);
        draw(x, "two marks", 2, 0);
        x.addFold(0, 1, 2);
        draw(x, "an open fold", 0, 0);
        x.setClosed(0, 0, true);
        draw(x, "a closed fold", 2, 0);
        x.setMark(2, false);
        draw(x, "a mark inside", 1, 0);
        x.setMark(1, false);
        x.setMark(2, true);
        draw(x, "as many marks", 0, 0);
    }

    private static void whatIsCompared() {
        PaneLayers x = Check.withLines("ab", "na", "A\tb");
        draw(x, "first", 24, 0);
        x.insert(0, 2, '~');
        draw(x, "signs of a cluster", 1, 0);
        x.hide(0, 0, 1, 3);
        x.addVirtual(0, 0, 1, 'b');
        draw(x, "a virtual one instead", 1, 0);
        x.remove(0, 2, 3);
        draw(x, "what is not shown", 0, 0);
        x.show(0, 0);
        x.dropVirtual(0, 0);
        draw(x, "one of the text instead of a virtual one", 0, 0);
        x.remove(1, 0, 2);
        x.insert(1, 0, 'a');
        x.insert(1, 1, 'n');
        draw(x, "the order", 1, 0);
        x.hide(0, 1, 0, 1);
        draw(x, "fewer clusters", 1, 0);
        x.addVirtual(0, 1, 2, '<');
        draw(x, "more clusters", 1, 0);
        PaneLayers y = Check.withLines("k.k");
        y.addVirtual(0, 0, 0, 'k');
        y.hide(0, 0, 0, 1);
        draw(y, "first", 24, 0);
        y.addVirtual(0, 0, 3, Check.virtual("n"));
        y.insert(0, 1, 'n');
        y.hide(0, 0, 1, 2);
        draw(y, "a cluster more at the end", 1, 0);
        PaneLayers z = Check.withLines("12");
        z.insert(0, 0, 'n');
        z.insert(0, 3, 'n');
        draw(z, "first", 24, 0);
        z.remove(0, 0, 1);
        z.insert(0, 0, 'n');
        draw(z, "the same signs", 0, 0);
        PaneLayers w = Check.withLines(".", ".");
        w.addVirtual(0, 1, 1, 'n');
        w.share(0, 1, 1, 1);
        w.open(1);
        draw(w, "first", 1, 0);
        w.addVirtual(0, 0, 1, 'n');
        draw(w, "more", 1, 0);
    }

    private static void heights() {
        PaneLayers x = withMany(40);
        draw(x, "first", 24, 0);
        x.open(1);
        draw(x, "12 rows", 0, 0);
        x.close(1);
        draw(x, "12 rows are not drawn", 12, 0);
        x.scroll(0, 30);
        draw(x, "far away", 24, 0);
        Check.due("close", 1, closed(x));
        Check.due("the shift of a closed pane", 0, x.shift(0));
        x.scroll(1, 5);
        x.open(0);
        draw(x, "what was drawn is kept", 0, 0);
    }

    private static int closed(PaneLayers x) {
        x.open(1);
        return x.close(0);
    }

    private static void errors() {
        PaneLayers x = new PaneLayers();
        for (int pane : new int[] {-1, 4, Integer.MIN_VALUE}) {
            Check.range("draw pane " + pane, () -> x.draw(pane));
            Check.range("shift of pane " + pane, () -> x.shift(pane));
        }
        Check.state("draw a closed pane", () -> x.draw(1));
        Check.due("shift of a closed pane", 0, x.shift(1));
    }
}
