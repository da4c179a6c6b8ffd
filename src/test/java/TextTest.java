/** Promises 1 to 9: a new object and its text. */
final class TextTest {
    public static void main(String[] args) {
        newObject();
        signs();
        insert();
        remove();
        breakLine();
        join();
        marks();
        Check.end();
    }

    private static void newObject() {
        PaneLayers x = new PaneLayers();
        Check.due("lines", 1, x.lines());
        Check.due("length", 0, x.length(0));
        for (int pane = 0; pane < 4; pane++) {
            Check.due("height of " + pane, pane == 0 ? 24 : 0, x.height(pane));
            Check.due("rows of " + pane, 1, x.rows(pane));
            Check.due("cursor of " + pane, "0 0 0 0 0 0", Check.cursor(x, pane));
            Check.due("shift of " + pane, 0, x.shift(pane));
            Check.due("marks of " + pane, 0, x.marksAt(pane, 0));
        }
        Check.due("open", 12, x.open(1));
        PaneLayers other = new PaneLayers();
        Check.due("nothing is shared between objects", 24, other.height(0));
    }

    private static void signs() {
        PaneLayers x = Check.withLines("a\t~", "");
        Check.due("lines", 2, x.lines());
        Check.due("length", 3, x.length(0));
        Check.due("length", 0, x.length(1));
        Check.due("sign", 'a', x.sign(0, 0));
        Check.due("sign", 9, x.sign(0, 1));
        Check.due("sign", '~', x.sign(0, 2));
        Check.argument("sign at -1", () -> x.sign(0, -1));
        Check.argument("sign at the end", () -> x.sign(0, 3));
        Check.argument("sign of an empty line", () -> x.sign(1, 0));
        Check.range("sign of no line, nowhere", () -> x.sign(2, -1));
        Check.range("sign of line -1", () -> x.sign(-1, 0));
        Check.range("length of line 2", () -> x.length(2));
        Check.range("length of line -1", () -> x.length(-1));
        Check.range("length of the last int", () -> x.length(Integer.MAX_VALUE));
    }

    private static void insert() {
        PaneLayers x = new PaneLayers();
        Check.due("insert", 1, x.insert(0, 0, 32));
        Check.due("insert", 2, x.insert(0, 0, 126));
        Check.due("insert", 3, x.insert(0, 1, 9));
        Check.due("insert", 4, x.insert(0, 3, 'z'));
        Check.due("text", "~\t z", Check.text(x));
        for (int sign : new int[] {-1, 0, 8, 10, 31, 127, 256 + 65}) {
            Check.argument("insert " + sign, () -> x.insert(0, 0, sign));
        }
        Check.argument("insert at -1", () -> x.insert(0, -1, 'a'));
        Check.argument("insert behind the end", () -> x.insert(0, 5, 'a'));
        Check.range("insert in no line", () -> x.insert(1, -1, 0));
        Check.range("insert in line -1", () -> x.insert(-1, 0, 'a'));
        Check.due("text", "~\t z", Check.text(x));
        Check.write(x, 0, "a".repeat(76));
        Check.due("length", 80, x.length(0));
        Check.state("insert into 80", () -> x.insert(0, 0, 'a'));
        Check.argument("insert no sign into 80", () -> x.insert(0, 0, 0));
        Check.argument("insert behind 80", () -> x.insert(0, 81, 'a'));
        Check.due("length", 80, x.length(0));
    }

    private static void remove() {
        PaneLayers x = Check.withLines("abcdef");
        Check.due("remove", 4, x.remove(0, 1, 3));
        Check.due("text", "adef", Check.text(x));
        Check.argument("remove nothing", () -> x.remove(0, 2, 2));
        Check.argument("remove backwards", () -> x.remove(0, 3, 2));
        Check.argument("remove from -1", () -> x.remove(0, -1, 2));
        Check.argument("remove to 5", () -> x.remove(0, 0, 5));
        Check.argument("remove to 0", () -> x.remove(0, 0, 0));
        Check.range("remove from no line", () -> x.remove(1, 2, 2));
        Check.range("remove from line -1", () -> x.remove(-1, 0, 1));
        Check.due("text", "adef", Check.text(x));
        Check.due("remove the end", 3, x.remove(0, 3, 4));
        Check.due("remove all", 0, x.remove(0, 0, 3));
        Check.argument("remove from an empty line", () -> x.remove(0, 0, 1));
    }

    private static void breakLine() {
        PaneLayers x = Check.withLines("abcdef", "gh");
        Check.due("break", 3, x.breakLine(0, 2));
        Check.due("break at the beginning", 4, x.breakLine(1, 0));
        Check.due("break at the end", 5, x.breakLine(3, 2));
        Check.due("text", "ab||cdef|gh|", Check.text(x));
        Check.argument("break at -1", () -> x.breakLine(0, -1));
        Check.argument("break behind the end", () -> x.breakLine(0, 3));
        Check.range("break no line", () -> x.breakLine(5, -1));
        Check.range("break line -1", () -> x.breakLine(-1, 0));
        for (int lines = 6; lines <= 60; lines++) {
            Check.due("break", lines, x.breakLine(0, 1));
        }
        Check.state("break with 60 lines", () -> x.breakLine(0, 0));
        Check.argument("break at -1 with 60 lines", () -> x.breakLine(0, -1));
        Check.range("break line 60", () -> x.breakLine(60, 0));
        Check.due("lines", 60, x.lines());
        Check.due("the last but one line", 2, x.length(58));
        Check.due("join", 2, x.join(58));
        Check.due("lines", 59, x.lines());
    }

    private static void join() {
        PaneLayers x = Check.withLines("ab", "", "cd", "e");
        Check.due("join", 2, x.join(0));
        Check.due("join", 4, x.join(0));
        Check.due("text", "abcd|e", Check.text(x));
        Check.range("join the last line", () -> x.join(1));
        Check.range("join no line", () -> x.join(2));
        Check.range("join line -1", () -> x.join(-1));
        Check.range("join the last int", () -> x.join(Integer.MAX_VALUE));
        Check.write(x, 0, "x".repeat(75));
        Check.write(x, 1, "y");
        Check.state("join 79 and 2", () -> x.join(0));
        Check.due("lines", 2, x.lines());
        Check.due("remove", 1, x.remove(1, 0, 1));
        Check.due("join 79 and 1", 80, x.join(0));
        Check.due("lines", 1, x.lines());
        Check.due("a broken line is empty again", 2, x.breakLine(0, 80));
        Check.due("length", 0, x.length(1));
    }

    private static void marks() {
        PaneLayers x = Check.withLines("ab", "cd", "ef");
        Check.due("mark", false, x.setMark(1, true));
        Check.due("mark again", true, x.setMark(1, true));
        Check.due("marks", "010", marks(x));
        x.breakLine(1, 0);
        Check.due("a mark stays with the beginning of its line", "0100", marks(x));
        x.breakLine(1, 0);
        x.breakLine(0, 1);
        Check.due("marks go with their lines", "001000", marks(x));
        x.join(0);
        Check.due("marks go back with their lines", "01000", marks(x));
        x.join(0);
        Check.due("a mark of two lines that become one", "1000", marks(x));
        x.setMark(1, true);
        x.join(0);
        Check.due("two marks become one", "100", marks(x));
        x.join(0);
        Check.due("the first mark stays", "10", marks(x));
        Check.due("unmark", true, x.setMark(0, false));
        Check.due("unmark again", false, x.setMark(0, false));
        Check.due("marks", "00", marks(x));
        x.setMark(1, true);
        x.join(0);
        x.breakLine(0, 0);
        Check.due("a new line has no mark", "10", marks(x));
        Check.range("mark no line", () -> x.setMark(2, true) ? 1 : 0);
        Check.range("mark line -1", () -> x.setMark(-1, false) ? 1 : 0);
    }

    private static String marks(PaneLayers x) {
        StringBuilder told = new StringBuilder();
        for (int row = 0; row < x.rows(0); row++) {
            told.append(x.marksAt(0, row));
        }
        return told.toString();
    }
}
