/** Promises 1 to 9: a new object and its text. */
final class TextTest {
    public static void main(String[] args) {
        PaneLayers x = new PaneLayers();
        Check.due("lines", 1, x.lines());
        Check.due("length", 0, x.length(0));
        Check.end();
    }
}
