import java.util.ArrayList;

/**
 * The windows of an editor over one text: panes with layers of their own, rows that are wrapped by words and run in
 * both directions, cursors, a stack of panes that shares the screen, and rows to draw again.
 */
public final class PaneLayers {
    public static final int NONE = -1;
    public static final int BEFORE = 0, BEHIND = 1;
    public static final int LEFT = 0, RIGHT = 1, UP = 2, DOWN = 3, HOME = 4, END = 5, PAGE_UP = 6, PAGE_DOWN = 7;

    private static final int PANES = 4;
    private static final int MOST_LINES = 60;
    private static final int MOST_SIGNS = 80;
    private static final int MOST_LAYERS = 6;
    private static final int MOST_VIRTUAL_SIGNS = 8;
    private static final int DOTS = 3;
    /** A line has at most this many clusters: of the text, of all virtual texts, and of a fold. */
    private static final int CELLS = MOST_SIGNS + MOST_LAYERS * MOST_VIRTUAL_SIGNS + DOTS;
    private static final int LEAST_WIDTH = 10;
    private static final int MOST_WIDTH = 40;
    private static final int MOST_INDENT = 4;
    private static final int MOST_MARGIN = 3;
    private static final int TELLINGS = 6;
    private static final int PARTS = 8;
    private static final int SCREEN = 24;
    private static final int MOST_WEIGHT = 9;
    private static final int MOST_LEAST = 8;
    private static final int MOST_LOCKED = 16;
    private static final int LOGGED_MOVES = 50;
    private static final int MOST_SCROLLED = 100;
    private static final int MOST_BOX_ROWS = 10;
    private static final int TAB = 9;
    private static final int BLANK = 32;
    private static final int LAST_SIGN = 126;
    private static final int FOLLOWER = '~';
    private static final int TAB_STOP = 4;
    private static final int LEFTWARD = 0;
    private static final int RIGHTWARD = 1;

    private final Text text = new Text();
    private final Pane[] panes = new Pane[PANES];
    private final Stack stack = new Stack();
    private final int[] loggedPanes = new int[LOGGED_MOVES];
    private final int[] loggedMoves = new int[LOGGED_MOVES];
    private int logged;
    private int nextLogged;
    private final int[] boxLines = new int[MOST_BOX_ROWS];
    private final int[] boxPlaces = new int[MOST_BOX_ROWS];

    public PaneLayers() {
        for (int pane = 0; pane < PANES; pane++) {
            panes[pane] = new Pane(text);
        }
    }

    // ---- text

    public int lines() {
        return text.count;
    }

    public int length(int line) throws IndexOutOfBoundsException {
        return lineOf(line).size;
    }

    public int sign(int line, int place) throws IndexOutOfBoundsException, IllegalArgumentException {
        Line it = lineOf(line);
        checkRange(place, 0, it.size - 1);
        return it.signAt(place);
    }

    public int insert(int line, int place, int sign)
            throws IndexOutOfBoundsException, IllegalArgumentException, IllegalStateException {
        Line it = lineOf(line);
        checkRange(place, 0, it.size);
        checkSign(sign);
        checkState(it.size < MOST_SIGNS);
        putIn(line, place, sign);
        return it.size;
    }

    public int remove(int line, int from, int to) throws IndexOutOfBoundsException, IllegalArgumentException {
        Line it = lineOf(line);
        checkRange(to, 1, it.size);
        checkRange(from, 0, to - 1);
        it.takeOut(from, to);
        for (Pane pane : panes) {
            pane.signsWent(line, from, to);
        }
        return it.size;
    }

    public int breakLine(int line, int place)
            throws IndexOutOfBoundsException, IllegalArgumentException, IllegalStateException {
        checkRange(place, 0, lineOf(line).size);
        checkState(text.count < MOST_LINES);
        text.breakAt(line, place);
        for (Pane pane : panes) {
            pane.lineBroke(line, place);
        }
        return text.count;
    }

    public int join(int line) throws IndexOutOfBoundsException, IllegalStateException {
        int size = lineOf(line).size;
        int both = size + lineOf(line + 1).size;
        checkState(both <= MOST_SIGNS);
        text.joinBehind(line);
        for (Pane pane : panes) {
            pane.linesJoined(line, size);
        }
        return both;
    }

    public boolean setMark(int line, boolean isMarked) throws IndexOutOfBoundsException {
        Line it = lineOf(line);
        boolean was = it.isMarked;
        it.isMarked = isMarked;
        return was;
    }

    // ---- panes and layers

    public void shape(int pane, int width, int indent, int margin)
            throws IndexOutOfBoundsException, IllegalArgumentException {
        Pane it = paneOf(pane);
        checkRange(width, LEAST_WIDTH, MOST_WIDTH);
        checkRange(indent, 0, MOST_INDENT);
        checkRange(margin, 0, MOST_MARGIN);
        it.reshape(width, indent, margin);
    }

    public int hide(int pane, int line, int from, int to)
            throws IndexOutOfBoundsException, IllegalArgumentException, IllegalStateException {
        Pane it = paneOf(pane);
        checkRange(to, 1, lineOf(line).size);
        checkRange(from, 0, to - 1);
        ArrayList<Span> spans = it.layers.spans;
        checkState(spans.size() < MOST_LAYERS);
        spans.add(new Span(line, from, to));
        it.forgetLine(line);
        return spans.size();
    }

    public int show(int pane, int span) throws IndexOutOfBoundsException {
        Pane it = paneOf(pane);
        ArrayList<Span> spans = it.layers.spans;
        if (span < 0 || span >= spans.size()) {
            throw new IndexOutOfBoundsException("no such span");
        }
        spans.remove(span);
        it.forgetFrom(0);
        return spans.size();
    }

    public int addVirtual(int pane, int line, int place, long signs)
            throws IndexOutOfBoundsException, IllegalArgumentException, IllegalStateException {
        Pane it = paneOf(pane);
        checkRange(place, 0, lineOf(line).size);
        if (!Virtual.isText(signs)) {
            throw new IllegalArgumentException("no virtual text");
        }
        ArrayList<Virtual> virtuals = it.layers.virtuals;
        checkState(virtuals.size() < MOST_LAYERS);
        virtuals.add(new Virtual(line, place, signs));
        it.forgetLine(line);
        return virtuals.size();
    }

    public int dropVirtual(int pane, int number) throws IndexOutOfBoundsException, IllegalArgumentException {
        Pane it = paneOf(pane);
        ArrayList<Virtual> virtuals = it.layers.virtuals;
        if (number < 0 || number >= virtuals.size()) {
            throw new IllegalArgumentException("no such virtual text");
        }
        virtuals.remove(number);
        it.forgetFrom(0);
        return virtuals.size();
    }

    public int addFold(int pane, int from, int to)
            throws IndexOutOfBoundsException, IllegalArgumentException, IllegalStateException {
        Pane it = paneOf(pane);
        checkLine(from);
        checkLine(to);
        if (to <= from) {
            throw new IllegalArgumentException("the last line is not behind the first one");
        }
        ArrayList<Fold> folds = it.layers.folds;
        checkState(folds.size() < MOST_LAYERS);
        folds.add(new Fold(from, to));
        return folds.size();
    }

    public boolean setClosed(int pane, int fold, boolean isClosed)
            throws IndexOutOfBoundsException, IllegalArgumentException {
        Pane it = paneOf(pane);
        ArrayList<Fold> folds = it.layers.folds;
        if (fold < 0 || fold >= folds.size()) {
            throw new IllegalArgumentException("no such fold");
        }
        Fold one = folds.get(fold);
        boolean was = one.isClosed;
        one.isClosed = isClosed;
        it.forgetFrom(0);
        return was;
    }

    // ---- rows

    public int rows(int pane) throws IndexOutOfBoundsException {
        return laidPane(pane).allRows;
    }

    public int rowsOf(int pane, int line) throws IndexOutOfBoundsException {
        Pane it = laidPane(pane);
        checkLine(line);
        return it.rowCount(line);
    }

    public int clusters(int pane, int row) throws IndexOutOfBoundsException {
        Pane it = laidPane(pane);
        checkRow(it, row);
        int line = it.lineOfRow(row);
        return it.measured(line).cellsIn(it.rowInLine(row, line));
    }

    public int cell(int pane, int row, int cell, int what)
            throws IndexOutOfBoundsException, IllegalArgumentException {
        Pane it = laidPane(pane);
        checkRow(it, row);
        int line = it.lineOfRow(row);
        it.measured(line);
        Layout layout = it.turned();
        int found = layout.onScreen(it.rowInLine(row, line), cell);
        if (found == NONE) {
            throw new IndexOutOfBoundsException("no such cell");
        }
        checkRange(what, 0, TELLINGS - 1);
        return layout.tell(found, what);
    }

    public int rowAt(int pane, int line, int place, int side)
            throws IndexOutOfBoundsException, IllegalArgumentException {
        Pane it = laidPane(pane);
        checkRange(place, 0, lineOf(line).size);
        checkRange(side, BEFORE, BEHIND);
        return it.rowCount(line) == 0 ? NONE : it.rowDown(line, place, side);
    }

    public int columnAt(int pane, int line, int place, int side)
            throws IndexOutOfBoundsException, IllegalArgumentException {
        Pane it = laidPane(pane);
        checkRange(place, 0, lineOf(line).size);
        checkRange(side, BEFORE, BEHIND);
        return it.rowCount(line) == 0 ? NONE : it.columnDown(line, place, side);
    }

    public int lineAt(int pane, int row) throws IndexOutOfBoundsException {
        Pane it = laidPane(pane);
        checkRow(it, row);
        return it.lineOfRow(row);
    }

    public int placeAt(int pane, int row, int column) throws IndexOutOfBoundsException, IllegalArgumentException {
        Pane it = laidPane(pane);
        checkRow(it, row);
        checkRange(column, 0, MOST_WIDTH - 1);
        return it.placeUp(row, column);
    }

    public int marksAt(int pane, int row) throws IndexOutOfBoundsException {
        Pane it = laidPane(pane);
        checkRow(it, row);
        return it.marksOfRow(row);
    }

    public int minimap(int pane, int part) throws IndexOutOfBoundsException, IllegalArgumentException {
        Pane it = laidPane(pane);
        checkRange(part, 0, PARTS - 1);
        return it.wideCells(part * it.allRows / PARTS, (part + 1) * it.allRows / PARTS);
    }

    // ---- stack

    public int open(int pane) throws IndexOutOfBoundsException, IllegalStateException {
        checkPane(pane);
        checkState(!stack.isOpen(pane) && stack.hasRoomFor(pane));
        stack.setOpen(pane, true);
        return stack.heightOf(pane);
    }

    public int close(int pane) throws IndexOutOfBoundsException, IllegalStateException {
        checkPane(pane);
        checkState(stack.isOpen(pane) && stack.openOnes() > 1);
        stack.setOpen(pane, false);
        return stack.openOnes();
    }

    public int share(int pane, int weight, int least, int locked)
            throws IndexOutOfBoundsException, IllegalArgumentException, IllegalStateException {
        checkPane(pane);
        checkRange(weight, 1, MOST_WEIGHT);
        checkRange(least, 1, MOST_LEAST);
        if (locked != NONE) {
            checkRange(locked, 1, MOST_LOCKED);
        }
        checkState(!stack.isOpen(pane) || stack.hasRoomFor(pane, locked == NONE ? least : locked));
        stack.setShare(pane, weight, least, locked);
        return stack.heightOf(pane);
    }

    public int height(int pane) throws IndexOutOfBoundsException {
        checkPane(pane);
        return stack.heightOf(pane);
    }

    // ---- cursors

    public int put(int pane, int line, int place)
            throws IndexOutOfBoundsException, IllegalArgumentException, IllegalStateException {
        Pane it = laidPane(pane);
        checkRange(place, 0, lineOf(line).size);
        checkState(stack.isOpen(pane) && it.rowCount(line) > 0);
        it.putCursor(line, place);
        it.follow(stack.heightOf(pane));
        return it.cursorRow();
    }

    public boolean move(int pane, int move)
            throws IndexOutOfBoundsException, IllegalArgumentException, IllegalStateException {
        Pane it = laidPane(pane);
        checkRange(move, LEFT, PAGE_DOWN);
        checkState(stack.isOpen(pane));
        logMove(pane, move);
        int height = stack.heightOf(pane);
        boolean isAnother = it.go(move, height);
        if (isAnother) {
            it.follow(height);
        }
        return isAnother;
    }

    public int play(int from, int to) throws IndexOutOfBoundsException, IllegalStateException {
        checkPane(from);
        Pane it = laidPane(to);
        checkState(stack.isOpen(to));
        int height = stack.heightOf(to);
        int moved = 0;
        int oldest = nextLogged + LOGGED_MOVES - logged;
        for (int i = 0; i < logged; i++) {
            int at = (oldest + i) % LOGGED_MOVES;
            if (at >= 0 && at < LOGGED_MOVES && loggedPanes[at] == from && it.go(loggedMoves[at], height)) {
                it.follow(height);
                moved++;
            }
        }
        return moved;
    }

    public int cursor(int pane, int what) throws IndexOutOfBoundsException, IllegalArgumentException {
        Pane it = laidPane(pane);
        checkRange(what, 0, TELLINGS - 1);
        switch (what) {
            case 0:
                return it.takenLine(it.cursor);
            case 1:
                return it.takenAt(it.cursor);
            case 2:
                return it.cursorRow();
            case 3:
                return it.cursorColumn();
            case 4:
                return it.wanted;
            default:
                return it.topRow();
        }
    }

    public int scroll(int pane, int rows)
            throws IndexOutOfBoundsException, IllegalArgumentException, IllegalStateException {
        Pane it = laidPane(pane);
        checkRange(rows, -MOST_SCROLLED, MOST_SCROLLED);
        checkState(stack.isOpen(pane));
        return it.scrollBy(rows, stack.heightOf(pane));
    }

    public int type(int pane, int sign)
            throws IndexOutOfBoundsException, IllegalArgumentException, IllegalStateException {
        Pane it = laidPane(pane);
        checkSign(sign);
        int line = it.takenLine(it.cursor);
        int place = it.takenAt(it.cursor);
        checkState(stack.isOpen(pane) && lineOf(line).size < MOST_SIGNS);
        putIn(line, place, sign);
        it.refresh();
        it.putCursor(line, place + 1);
        it.follow(stack.heightOf(pane));
        return place + 1;
    }

    public int typeBox(int pane, int row, int many, int column, int sign)
            throws IndexOutOfBoundsException, IllegalArgumentException, IllegalStateException {
        Pane it = laidPane(pane);
        checkRange(many, 1, MOST_BOX_ROWS);
        checkRow(it, row);
        checkRow(it, it.allRows - row < many ? NONE : row + many - 1);
        checkRange(column, 0, MOST_WIDTH - 1);
        checkSign(sign);
        int found = findBox(it, row, many, column);
        for (int i = 0; i < found && i < MOST_BOX_ROWS; i++) {
            checkState(text.at(boxLines[i]).size + boxPlacesInLine(found, boxLines[i]) <= MOST_SIGNS);
        }
        for (int i = 0; i < found && i < MOST_BOX_ROWS; i++) {
            putIn(boxLines[i], boxPlaces[i] + boxPlacesAhead(i), sign);
        }
        return found;
    }

    // ---- drawing

    public int draw(int pane) throws IndexOutOfBoundsException, IllegalStateException {
        Pane it = laidPane(pane);
        checkState(stack.isOpen(pane));
        return it.redraw(stack.heightOf(pane));
    }

    public int shift(int pane) throws IndexOutOfBoundsException {
        return paneOf(pane).drawnShift;
    }

    // ---- inside

    private void checkPane(int pane) {
        if (pane < 0 || pane >= PANES) {
            throw new IndexOutOfBoundsException("no such pane");
        }
    }

    private void checkLine(int line) {
        if (line < 0 || line >= text.count) {
            throw new IndexOutOfBoundsException("no such line");
        }
    }

    private void checkRow(Pane pane, int row) {
        if (row < 0 || row >= pane.allRows) {
            throw new IndexOutOfBoundsException("no such row");
        }
    }

    private void checkRange(int value, int least, int most) {
        if (value < least || value > most) {
            throw new IllegalArgumentException("an argument is out of range");
        }
    }

    private void checkSign(int sign) {
        if (sign != TAB && (sign < BLANK || sign > LAST_SIGN)) {
            throw new IllegalArgumentException("no sign");
        }
    }

    private void checkState(boolean isGood) {
        if (!isGood) {
            throw new IllegalStateException("not in this state");
        }
    }

    private Line lineOf(int line) {
        checkLine(line);
        return text.at(line);
    }

    private Pane paneOf(int pane) {
        if (pane < 0 || pane >= PANES) {
            throw new IndexOutOfBoundsException("no such pane");
        }
        return panes[pane];
    }

    private Pane laidPane(int pane) {
        Pane it = paneOf(pane);
        it.refresh();
        return it;
    }

    private void putIn(int line, int place, int sign) {
        text.at(line).putIn(place, sign);
        for (Pane pane : panes) {
            pane.signCame(line, place);
        }
    }

    private void logMove(int pane, int move) {
        if (nextLogged >= 0 && nextLogged < LOGGED_MOVES) {
            loggedPanes[nextLogged] = pane;
            loggedMoves[nextLogged] = move;
        }
        nextLogged = (nextLogged + 1) % LOGGED_MOVES;
        logged = Math.min(logged + 1, LOGGED_MOVES);
    }

    private int findBox(Pane pane, int row, int many, int column) {
        int found = 0;
        for (int i = 0; i < many && found < MOST_BOX_ROWS; i++) {
            int line = pane.lineOfRow(row + i);
            int place = pane.placeUp(row + i, column);
            if (!isInBox(found, line, place)) {
                boxLines[found] = line;
                boxPlaces[found] = place;
                found++;
            }
        }
        return found;
    }

    private boolean isInBox(int found, int line, int place) {
        for (int i = 0; i < found && i < MOST_BOX_ROWS; i++) {
            if (boxLines[i] == line && boxPlaces[i] == place) {
                return true;
            }
        }
        return false;
    }

    private int boxPlacesInLine(int found, int line) {
        int many = 0;
        for (int i = 0; i < found && i < MOST_BOX_ROWS; i++) {
            if (boxLines[i] == line) {
                many++;
            }
        }
        return many;
    }

    /** How many places of the box that are typed at earlier push this one behind: it is told as it was found. */
    private int boxPlacesAhead(int one) {
        int ahead = 0;
        for (int i = 0; i < one && one < MOST_BOX_ROWS; i++) {
            if (boxLines[i] == boxLines[one] && boxPlaces[i] < boxPlaces[one]) {
                ahead++;
            }
        }
        return ahead;
    }

    private static boolean isBlank(int sign) {
        return sign == BLANK || sign == TAB;
    }

    /** A line of the text: its signs and its mark. */
    private static final class Line {
        private final int[] signs = new int[MOST_SIGNS];
        private int size;
        private boolean isMarked;

        int signAt(int place) {
            return place >= 0 && place < size && place < MOST_SIGNS ? signs[place] : NONE;
        }

        boolean hasClusterAt(int place) {
            return place == 0 || signAt(place) != FOLLOWER;
        }

        int clusterSize(int place) {
            int end = place + 1;
            while (end < size && signAt(end) == FOLLOWER) {
                end++;
            }
            return end - place;
        }

        void putIn(int place, int sign) {
            if (place < 0 || place > size || size >= MOST_SIGNS) {
                return;
            }
            System.arraycopy(signs, place, signs, place + 1, size - place);
            signs[place] = sign;
            size++;
        }

        void takeOut(int from, int to) {
            if (from < 0 || from >= to || to > size) {
                return;
            }
            System.arraycopy(signs, to, signs, from, size - to);
            size -= to - from;
        }

        void takeAllFrom(Line other, int from) {
            int many = other.size - from;
            if (from < 0 || many < 0 || size + many > MOST_SIGNS) {
                return;
            }
            System.arraycopy(other.signs, from, signs, size, many);
            size += many;
            other.size = from;
        }
    }

    /** The lines of the text; those behind the last one are spare. */
    private static final class Text {
        private final Line[] lines = new Line[MOST_LINES];
        private int count = 1;

        Text() {
            for (int i = 0; i < MOST_LINES; i++) {
                lines[i] = new Line();
            }
        }

        Line at(int line) {
            return line >= 0 && line < count && line < MOST_LINES ? lines[line] : lines[0];
        }

        void breakAt(int line, int place) {
            if (line < 0 || line >= count || count >= MOST_LINES) {
                return;
            }
            Line fresh = lines[count];
            System.arraycopy(lines, line + 1, lines, line + 2, count - line - 1);
            lines[line + 1] = fresh;
            fresh.size = 0;
            fresh.isMarked = false;
            fresh.takeAllFrom(lines[line], place);
            count++;
        }

        void joinBehind(int line) {
            if (line < 0 || line + 1 >= count || count > MOST_LINES) {
                return;
            }
            Line first = lines[line];
            Line second = lines[line + 1];
            first.takeAllFrom(second, 0);
            first.isMarked = first.isMarked || second.isMarked;
            System.arraycopy(lines, line + 2, lines, line + 1, count - line - 2);
            lines[count - 1] = second;
            count--;
        }

        int markedFrom(int first, int last) {
            int marked = 0;
            for (int line = first; line <= last && line < count; line++) {
                if (at(line).isMarked) {
                    marked++;
                }
            }
            return marked;
        }
    }

    /** A place that is kept with edits; one at which a span begins goes with the sign behind it. */
    private static final class Place {
        private final boolean isStart;
        private int line;
        private int at;

        Place(boolean isStart, int line, int at) {
            this.isStart = isStart;
            this.line = line;
            this.at = at;
        }

        void set(int toLine, int toPlace) {
            line = toLine;
            at = toPlace;
        }

        boolean isAt(int thatLine, int thatPlace) {
            return line == thatLine && at == thatPlace;
        }

        private boolean isBehind(int place) {
            return at > place || isStart && at == place;
        }

        void signCame(int inLine, int place) {
            if (line == inLine && isBehind(place)) {
                at++;
            }
        }

        void signsWent(int inLine, int from, int to) {
            if (line == inLine && at > from) {
                at = at >= to ? at - (to - from) : from;
            }
        }

        void lineBroke(int broken, int place) {
            if (line > broken) {
                line++;
            } else if (line == broken && isBehind(place)) {
                line++;
                at -= place;
            }
        }

        void linesJoined(int first, int length) {
            if (line == first + 1) {
                at += length;
            }
            if (line > first) {
                line--;
            }
        }
    }

    /** A hidden span of a line. */
    private static final class Span {
        private final Place from;
        private final Place to;

        Span(int line, int from, int to) {
            this.from = new Place(true, line, from);
            this.to = new Place(false, line, to);
        }

        boolean holds(int line, int place) {
            return from.line == line && from.at <= place && place < to.at;
        }

        void lineBroke(int line, int place) {
            from.lineBroke(line, place);
            to.lineBroke(line, place);
            if (to.line > from.line) {
                to.set(from.line, place);
            }
        }
    }

    /** A virtual text at a place. */
    private static final class Virtual {
        private static final int SIGN_BITS = 8;
        private static final int SIGN_MASK = 255;
        private static final int LAST_VIRTUAL = 125;
        private final Place place;
        private final long signs;

        Virtual(int line, int at, long signs) {
            this.place = new Place(false, line, at);
            this.signs = signs;
        }

        static boolean isText(long signs) {
            long left = signs;
            for (int i = 0; i < MOST_VIRTUAL_SIGNS && left != 0; i++) {
                long sign = left & SIGN_MASK;
                if (sign < BLANK || sign > LAST_VIRTUAL) {
                    return false;
                }
                left = left >>> SIGN_BITS;
            }
            return signs != 0;
        }

        /** The sign with a number; 0 behind the last one. */
        int signAt(int number) {
            return (int) (signs >>> number * SIGN_BITS) & SIGN_MASK;
        }
    }

    /** A fold of lines. */
    private static final class Fold {
        private int first;
        private int last;
        private boolean isClosed;

        Fold(int first, int last) {
            this.first = first;
            this.last = last;
        }

        boolean hides(int line) {
            return isClosed && line > first && line <= last;
        }

        void lineBroke(int line) {
            if (first > line) {
                first++;
            }
            if (last >= line) {
                last++;
            }
        }

        void linesJoined(int line) {
            if (first > line) {
                first--;
            }
            if (last > line) {
                last--;
            }
        }
    }

    /** What a pane hides, shows besides and folds. */
    private static final class Layers {
        private final ArrayList<Span> spans = new ArrayList<>();
        private final ArrayList<Virtual> virtuals = new ArrayList<>();
        private final ArrayList<Fold> folds = new ArrayList<>();

        boolean isHidden(int line, int place) {
            for (int i = 0; i < spans.size(); i++) {
                if (spans.get(i).holds(line, place)) {
                    return true;
                }
            }
            return false;
        }

        boolean isVisible(int line) {
            for (int i = 0; i < folds.size(); i++) {
                if (folds.get(i).hides(line)) {
                    return false;
                }
            }
            return true;
        }

        /** The last line of the closed folds that begin with a line; NONE if none does. */
        int closedEnd(int line) {
            int end = NONE;
            for (int i = 0; i < folds.size(); i++) {
                Fold fold = folds.get(i);
                if (fold.isClosed && fold.first == line) {
                    end = Math.max(end, fold.last);
                }
            }
            return end;
        }

        void signCame(int line, int place) {
            for (int i = 0; i < spans.size(); i++) {
                spans.get(i).from.signCame(line, place);
                spans.get(i).to.signCame(line, place);
            }
            for (int i = 0; i < virtuals.size(); i++) {
                virtuals.get(i).place.signCame(line, place);
            }
        }

        void signsWent(int line, int from, int to) {
            for (int i = spans.size() - 1; i >= 0; i--) {
                Span span = spans.get(i);
                span.from.signsWent(line, from, to);
                span.to.signsWent(line, from, to);
                if (span.from.at >= span.to.at) {
                    spans.remove(i);
                }
            }
            for (int i = 0; i < virtuals.size(); i++) {
                virtuals.get(i).place.signsWent(line, from, to);
            }
        }

        void lineBroke(int line, int place) {
            for (int i = 0; i < spans.size(); i++) {
                spans.get(i).lineBroke(line, place);
            }
            for (int i = 0; i < virtuals.size(); i++) {
                virtuals.get(i).place.lineBroke(line, place);
            }
            for (int i = 0; i < folds.size(); i++) {
                folds.get(i).lineBroke(line);
            }
        }

        void linesJoined(int line, int length) {
            for (int i = 0; i < spans.size(); i++) {
                spans.get(i).from.linesJoined(line, length);
                spans.get(i).to.linesJoined(line, length);
            }
            for (int i = 0; i < virtuals.size(); i++) {
                virtuals.get(i).place.linesJoined(line, length);
            }
            for (int i = folds.size() - 1; i >= 0; i--) {
                Fold fold = folds.get(i);
                fold.linesJoined(line);
                if (fold.first >= fold.last) {
                    folds.remove(i);
                }
            }
        }
    }

    /** One line as a pane lays it: its clusters, in the order of the text, and its rows. */
    private static final class Layout {
        private final int[] sign = new int[CELLS];
        private final int[] many = new int[CELLS];
        /** The place at which a cluster begins, NONE for a virtual one. */
        private final int[] begin = new int[CELLS];
        /** The place that is told going up from a cluster. */
        private final int[] told = new int[CELLS];
        private final int[] wide = new int[CELLS];
        private final int[] column = new int[CELLS];
        private final int[] level = new int[CELLS];
        /** The clusters of each row in the order of the screen. */
        private final int[] screen = new int[CELLS];
        private final int[] rowStart = new int[CELLS];
        private int size;
        private int rowCount;
        private int base;
        private int length;
        private int indent;

        void collect(Line line, Layers layers, int number) {
            size = 0;
            length = line.size;
            int ahead = NONE;
            for (int at = 0; at < length; at++) {
                if (line.hasClusterAt(at)) {
                    addVirtuals(layers, number, ahead, at);
                    if (!layers.isHidden(number, at)) {
                        add(line.signAt(at), line.clusterSize(at), at, at);
                    }
                    ahead = at;
                }
            }
            addVirtuals(layers, number, ahead, length);
            if (layers.closedEnd(number) != NONE) {
                for (int i = 0; i < DOTS; i++) {
                    add('.', 1, NONE, length);
                }
            }
        }

        /** Adds the virtual texts whose places are behind one place and not behind another. */
        private void addVirtuals(Layers layers, int number, int ahead, int last) {
            for (int i = 0; i < layers.virtuals.size(); i++) {
                Virtual virtual = layers.virtuals.get(i);
                int at = virtual.place.at;
                if (virtual.place.line == number && at > ahead && at <= last) {
                    for (int k = 0; k < MOST_VIRTUAL_SIGNS && virtual.signAt(k) != 0; k++) {
                        add(virtual.signAt(k), 1, NONE, at);
                    }
                }
            }
        }

        private void add(int itsSign, int itsSigns, int itsBegin, int itsPlace) {
            if (size < 0 || size >= CELLS) {
                return;
            }
            sign[size] = itsSign;
            many[size] = itsSigns;
            begin[size] = itsBegin;
            told[size] = itsPlace;
            size++;
        }

        void wrap(int width, int itsIndent) {
            indent = itsIndent;
            rowCount = 0;
            int next = 0;
            while (rowCount < CELLS && (rowCount == 0 || next < size)) {
                rowStart[rowCount] = next;
                next = layRow(next, firstColumn(rowCount), width);
                rowCount++;
            }
        }

        /** Lays a row from a cluster on; tells the cluster with which the next row begins. */
        private int layRow(int start, int itsColumn, int width) {
            int at = itsColumn;
            int k = Math.max(start, 0);
            while (k < size && k < CELLS && at + widthAt(sign[k], at) <= width) {
                wide[k] = widthAt(sign[k], at);
                at += wide[k];
                k++;
            }
            while (k < size && k < CELLS && isBlank(sign[k])) {
                wide[k] = 0;
                k++;
            }
            if (k >= size) {
                return k;
            }
            int back = k;
            while (back > start && back > 0 && !isBlank(sign[back - 1])) {
                back--;
            }
            return back > start ? back : k;
        }

        private int widthAt(int itsSign, int at) {
            if (itsSign == TAB) {
                return TAB_STOP - at % TAB_STOP;
            }
            return itsSign >= 'A' && itsSign <= 'Z' ? 2 : 1;
        }

        private int firstColumn(int row) {
            return row == 0 ? 0 : indent;
        }

        int startOf(int row) {
            return row < 0 || row >= rowCount || row >= CELLS ? size : rowStart[row];
        }

        int cellsIn(int row) {
            return startOf(row + 1) - startOf(row);
        }

        /** Puts the clusters of each row, whose levels are known, where they stand on the screen. */
        void turnRows() {
            for (int row = 0; row < rowCount; row++) {
                int from = startOf(row);
                int to = Math.min(startOf(row + 1), CELLS);
                levelEnd(from, to);
                orderRow(from, to);
                placeRow(from, to, firstColumn(row));
            }
        }

        private void levelEnd(int from, int to) {
            int k = to - 1;
            while (k >= from && k >= 0 && k < CELLS && isBlank(sign[k])) {
                level[k] = base;
                k--;
            }
        }

        private void orderRow(int from, int to) {
            int highest = 0;
            for (int k = Math.max(from, 0); k < to && k < CELLS; k++) {
                screen[k] = k;
                highest = Math.max(highest, level[k]);
            }
            for (int least = highest; least > 0; least--) {
                int k = from;
                while (k < to) {
                    int end = k;
                    while (end < to && levelOnScreen(end) >= least) {
                        end++;
                    }
                    turnRound(k, end);
                    k = end + 1;
                }
            }
        }

        private int levelOnScreen(int k) {
            int found = k >= 0 && k < CELLS ? screen[k] : NONE;
            return found >= 0 && found < CELLS ? level[found] : NONE;
        }

        private void turnRound(int from, int to) {
            int low = from;
            int high = to - 1;
            while (low >= 0 && low < high && high < CELLS) {
                int kept = screen[low];
                screen[low] = screen[high];
                screen[high] = kept;
                low++;
                high--;
            }
        }

        private void placeRow(int from, int to, int itsColumn) {
            int at = itsColumn;
            for (int k = Math.max(from, 0); k < to && k < CELLS; k++) {
                int found = screen[k];
                if (found >= 0 && found < CELLS) {
                    column[found] = at;
                    at += wide[found];
                }
            }
        }

        /** The cluster that stands at a number on the screen in a row; NONE if there is none. */
        int onScreen(int row, int number) {
            int k = startOf(row) + number;
            return number >= 0 && number < cellsIn(row) && k >= 0 && k < CELLS ? screen[k] : NONE;
        }

        int tell(int k, int what) {
            if (k < 0 || k >= CELLS) {
                return NONE;
            }
            switch (what) {
                case 0:
                    return sign[k];
                case 1:
                    return many[k];
                case 2:
                    return column[k];
                case 3:
                    return wide[k];
                case 4:
                    return level[k];
                default:
                    return begin[k];
            }
        }

        /**
         * The cluster to which one goes down, twice, and 1 more for the edge behind it; NONE if no cluster of the
         * text is shown.
         */
        int edgeAt(int place, int side) {
            int first = NONE;
            int last = NONE;
            int found = NONE;
            for (int k = 0; k < size && k < CELLS; k++) {
                if (begin[k] != NONE) {
                    first = first == NONE ? k : first;
                    last = k;
                    boolean isBefore = side == BEFORE && found == NONE && begin[k] >= place;
                    boolean isBehind = side == BEHIND && begin[k] + many[k] <= place;
                    found = isBefore || isBehind ? k : found;
                }
            }
            if (first == NONE) {
                return NONE;
            }
            if (side == BEFORE) {
                return found == NONE ? 2 * last + 1 : 2 * found;
            }
            return found == NONE ? 2 * first : 2 * found + 1;
        }

        int rowOfEdge(int edge) {
            int row = 0;
            while (edge != NONE && row + 1 < rowCount && startOf(row + 1) <= edge / 2) {
                row++;
            }
            return row;
        }

        int columnOfEdge(int edge) {
            int k = edge / 2;
            if (edge < 0 || k >= CELLS) {
                return 0;
            }
            return (level[k] + edge) % 2 == 0 ? column[k] : column[k] + wide[k];
        }

        /** The place that is up from a row and a column; a row that has clusters begins with one that has a width. */
        int placeUp(int row, int itsColumn) {
            int many = cellsIn(row);
            int found = onScreen(row, 0);
            for (int i = 0; i < many; i++) {
                int k = onScreen(row, i);
                if (k >= 0 && k < CELLS && wide[k] > 0 && column[k] <= itsColumn) {
                    found = k;
                }
            }
            return found >= 0 && found < CELLS ? told[found] : length;
        }

        /** The place of a row. */
        int firstPlace(int row) {
            for (int k = Math.max(startOf(row), 0); k < startOf(row + 1) && k < CELLS; k++) {
                if (begin[k] != NONE) {
                    return begin[k];
                }
            }
            return row == rowCount - 1 ? length : 0;
        }

        /** The place at the end of a row; NONE if there is none. */
        int lastPlace(int row) {
            if (row == rowCount - 1) {
                return length;
            }
            int place = NONE;
            for (int k = Math.max(startOf(row), 0); k < startOf(row + 1) && k < CELLS; k++) {
                place = Math.max(place, begin[k]);
            }
            return place;
        }

        /** The greatest shown place ahead of a place; NONE if there is none. */
        int shownAhead(int place) {
            int found = NONE;
            for (int k = 0; k < size && k < CELLS; k++) {
                if (begin[k] < place) {
                    found = Math.max(found, begin[k]);
                }
            }
            return found;
        }

        /** The least shown place behind a place; NONE if there is none. */
        int shownBehind(int place) {
            for (int k = 0; k < size && k < CELLS; k++) {
                if (begin[k] > place) {
                    return begin[k];
                }
            }
            return length > place ? length : NONE;
        }

        int wideCells(int row) {
            int found = 0;
            for (int k = Math.max(startOf(row), 0); k < startOf(row + 1) && k < CELLS; k++) {
                if (wide[k] > 0) {
                    found++;
                }
            }
            return found;
        }
    }

    /** Finds in which directions the clusters of a line go. */
    private static final class Directions {
        /** Of an isolating sign that opens the one that closes it, NONE of others. */
        private final int[] partner = new int[CELLS];
        /** The base of the sequence in which a cluster stands. */
        private final int[] baseAt = new int[CELLS];
        /** The clusters of the sequence that is looked at, what is between isolating ones left out. */
        private final int[] chain = new int[CELLS];
        private final int[] signs = new int[CELLS];
        private final int[] ways = new int[CELLS];
        /** Of an opening bracket of the chain the closing one, NONE of others. */
        private final int[] closer = new int[CELLS];
        private final int[] opened = new int[CELLS];
        private int chained;
        private int base;
        private int size;

        /** The whole line is looked at first, then what is between isolating signs, outer pairs ahead of inner ones. */
        void find(Layout layout) {
            size = Math.min(layout.size, CELLS);
            matchIsolating(layout);
            for (int opening = NONE; opening < size; opening++) {
                int end = endOfInside(opening);
                if (end != NONE) {
                    chainUp(layout, opening + 1, end);
                    base = leastAbove(leastBase(opening), Math.max(firstWay(), 0));
                    layout.base = opening == NONE ? base : layout.base;
                    turnDigits();
                    pairBrackets();
                    turnPairs();
                    turnNeutral();
                    setLevels(layout);
                }
            }
        }

        /** Where what is behind an isolating sign ends, or all if there is NONE; NONE if the sign opens nothing. */
        private int endOfInside(int opening) {
            if (opening == NONE) {
                return size;
            }
            return opening >= 0 && opening < CELLS && partner[opening] > opening ? partner[opening] : NONE;
        }

        private int leastBase(int opening) {
            return opening >= 0 && opening < CELLS ? baseAt[opening] + 1 : 0;
        }

        private int leastAbove(int least, int way) {
            return least % 2 == way ? least : least + 1;
        }

        private void matchIsolating(Layout layout) {
            int open = 0;
            for (int k = 0; k < size && k < CELLS; k++) {
                partner[k] = NONE;
                if (layout.sign[k] == '<' && open < CELLS) {
                    opened[open] = k;
                    open++;
                } else if (layout.sign[k] == '>' && open > 0) {
                    open--;
                    setPartner(opened[open], k);
                }
            }
        }

        private void setPartner(int from, int to) {
            if (from >= 0 && from < CELLS) {
                partner[from] = to;
            }
        }

        private void chainUp(Layout layout, int from, int to) {
            chained = 0;
            int k = Math.max(from, 0);
            while (k < to && k < CELLS && chained < CELLS) {
                chain[chained] = k;
                signs[chained] = layout.sign[k];
                ways[chained] = wayOf(layout.sign[k]);
                closer[chained] = NONE;
                chained++;
                k = Math.max(k + 1, partner[k]);
            }
        }

        private int wayOf(int sign) {
            int small = sign >= 'A' && sign <= 'Z' ? sign - 'A' + 'a' : sign;
            if (small >= 'a' && small <= 'm') {
                return LEFTWARD;
            }
            return small >= 'n' && small <= 'z' ? RIGHTWARD : NONE;
        }

        private int firstWay() {
            for (int i = 0; i < chained && i < CELLS; i++) {
                if (ways[i] != NONE) {
                    return ways[i];
                }
            }
            return NONE;
        }

        private void setLevels(Layout layout) {
            for (int i = 0; i < chained && i < CELLS; i++) {
                int k = chain[i];
                if (k >= 0 && k < CELLS) {
                    int digit = isDigit(signs[i]) && ways[i] == RIGHTWARD ? 1 : 0;
                    layout.level[k] = leastAbove(base, ways[i]) + digit;
                    baseAt[k] = base;
                }
            }
        }

        private boolean isDigit(int sign) {
            return sign >= '0' && sign <= '9';
        }

        private void turnDigits() {
            int last = base % 2;
            for (int i = 0; i < chained && i < CELLS; i++) {
                if (isDigit(signs[i])) {
                    ways[i] = last;
                } else if (ways[i] != NONE) {
                    last = ways[i];
                }
            }
        }

        private void pairBrackets() {
            int open = 0;
            for (int i = 0; i < chained && i < CELLS; i++) {
                int sign = signs[i];
                if ((sign == '(' || sign == '[') && open < CELLS) {
                    opened[open] = i;
                    open++;
                } else if (sign == ')' || sign == ']') {
                    int found = lastOpened(open, sign == ')' ? '(' : '[');
                    if (found >= 0 && found < CELLS) {
                        setCloser(opened[found], i);
                        open = found;
                    }
                }
            }
        }

        private int lastOpened(int open, int sign) {
            for (int i = Math.min(open, CELLS) - 1; i >= 0; i--) {
                int at = opened[i];
                if (at >= 0 && at < CELLS && signs[at] == sign) {
                    return i;
                }
            }
            return NONE;
        }

        private void setCloser(int from, int to) {
            if (from >= 0 && from < CELLS) {
                closer[from] = to;
            }
        }

        private void turnPairs() {
            for (int i = 0; i < chained && i < CELLS; i++) {
                int end = closer[i];
                if (end >= 0 && end < CELLS) {
                    ways[i] = wayOfPair(i, end);
                    ways[end] = ways[i];
                }
            }
        }

        private int wayOfPair(int from, int to) {
            int along = base % 2;
            boolean hasAlong = false;
            boolean hasAgainst = false;
            for (int i = Math.max(from + 1, 0); i < to && i < CELLS; i++) {
                hasAlong = hasAlong || ways[i] == along;
                hasAgainst = hasAgainst || ways[i] == 1 - along;
            }
            if (hasAlong || !hasAgainst) {
                return hasAlong ? along : NONE;
            }
            int ahead = Math.min(from, CELLS) - 1;
            while (ahead >= 0 && ways[ahead] == NONE) {
                ahead--;
            }
            return ahead >= 0 && ways[ahead] == 1 - along ? 1 - along : along;
        }

        private void turnNeutral() {
            int along = base % 2;
            int ahead = along;
            int i = 0;
            while (i >= 0 && i < chained && i < CELLS) {
                if (ways[i] != NONE) {
                    ahead = ways[i];
                    i++;
                } else {
                    int end = endOfNeutral(i);
                    int behind = end >= 0 && end < chained && end < CELLS ? ways[end] : along;
                    fillWays(i, end, ahead == behind ? ahead : along);
                    i = Math.max(end, i + 1);
                }
            }
        }

        private int endOfNeutral(int from) {
            int end = Math.max(from, 0);
            while (end < chained && end < CELLS && ways[end] == NONE) {
                end++;
            }
            return end;
        }

        private void fillWays(int from, int to, int way) {
            for (int i = Math.max(from, 0); i < to && i < CELLS; i++) {
                ways[i] = way;
            }
        }
    }

    /** Rows as they were drawn. */
    private static final class Picture {
        private final int[] cells = new int[SCREEN * CELLS];
        /** How many clusters a row has; NONE if it is behind the last one. */
        private final int[] sizes = new int[SCREEN];
        private final int[] marks = new int[SCREEN];
        private int drawnRows;

        void start() {
            drawnRows = 0;
        }

        void addNothing() {
            if (drawnRows < 0 || drawnRows >= SCREEN) {
                return;
            }
            sizes[drawnRows] = NONE;
            marks[drawnRows] = 0;
            drawnRows++;
        }

        void addRow(Layout layout, int row, int itsMarks) {
            if (drawnRows < 0 || drawnRows >= SCREEN) {
                return;
            }
            int many = Math.min(layout.cellsIn(row), CELLS);
            for (int i = 0; i < many; i++) {
                cells[drawnRows * CELLS + i] = packed(layout, layout.onScreen(row, i));
            }
            sizes[drawnRows] = many;
            marks[drawnRows] = itsMarks;
            drawnRows++;
        }

        /** All that is compared of a cluster in one number. */
        private int packed(Layout layout, int k) {
            int signs = layout.tell(k, 0) | layout.tell(k, 1) << 7;
            int spot = layout.tell(k, 2) | layout.tell(k, 3) << 6;
            return signs | spot << 14 | layout.tell(k, 4) << 23;
        }

        int differentRows(Picture old, int shift) {
            int different = 0;
            for (int row = 0; row < drawnRows; row++) {
                if (!isSame(row, old, row + shift)) {
                    different++;
                }
            }
            return different;
        }

        private boolean isSame(int row, Picture old, int oldRow) {
            if (row < 0 || row >= SCREEN || oldRow < 0 || oldRow >= old.drawnRows || oldRow >= SCREEN) {
                return false;
            }
            if (sizes[row] != old.sizes[oldRow] || marks[row] != old.marks[oldRow]) {
                return false;
            }
            for (int i = 0; i < sizes[row] && i < CELLS; i++) {
                if (cells[row * CELLS + i] != old.cells[oldRow * CELLS + i]) {
                    return false;
                }
            }
            return true;
        }
    }

    /** A window over the text. */
    private static final class Pane {
        private final Text text;
        private final Layers layers = new Layers();
        private final Layout layout = new Layout();
        private final Directions directions = new Directions();
        private final Place cursor = new Place(false, 0, 0);
        private final Place top = new Place(false, 0, 0);
        /** Where a move goes. */
        private final Place goal = new Place(false, 0, 0);
        private int wanted;
        private int width = 20;
        private int indent;
        private int margin;
        /** How many rows each line has; NONE if that has to be counted again. */
        private final int[] rowCounts = new int[MOST_LINES];
        private final int[] firstRows = new int[MOST_LINES];
        private int allRows;
        private boolean isCounted;
        /** The line that the layout holds, NONE if none. */
        private int laidLine = NONE;
        private boolean isTurned;
        private Picture drawn = new Picture();
        private Picture spare = new Picture();
        private int drawnShift;

        Pane(Text text) {
            this.text = text;
            for (int line = 0; line < MOST_LINES; line++) {
                rowCounts[line] = NONE;
            }
        }

        // -- what changes a pane

        void forgetLine(int line) {
            if (line >= 0 && line < MOST_LINES) {
                rowCounts[line] = NONE;
            }
            isCounted = false;
            laidLine = NONE;
        }

        void forgetFrom(int first) {
            for (int line = Math.max(first, 0); line < MOST_LINES; line++) {
                rowCounts[line] = NONE;
            }
            isCounted = false;
            laidLine = NONE;
        }

        void reshape(int itsWidth, int itsIndent, int itsMargin) {
            width = itsWidth;
            indent = itsIndent;
            margin = itsMargin;
            forgetFrom(0);
        }

        void signCame(int line, int place) {
            layers.signCame(line, place);
            cursor.signCame(line, place);
            top.signCame(line, place);
            forgetLine(line);
        }

        void signsWent(int line, int from, int to) {
            layers.signsWent(line, from, to);
            cursor.signsWent(line, from, to);
            top.signsWent(line, from, to);
            forgetLine(line);
        }

        void lineBroke(int line, int place) {
            layers.lineBroke(line, place);
            cursor.lineBroke(line, place);
            top.lineBroke(line, place);
            forgetFrom(line);
        }

        void linesJoined(int line, int length) {
            layers.linesJoined(line, length);
            cursor.linesJoined(line, length);
            top.linesJoined(line, length);
            forgetFrom(line);
        }

        // -- rows

        /** Counts the rows again, if something changed. */
        void refresh() {
            if (isCounted) {
                return;
            }
            allRows = 0;
            for (int line = 0; line < text.count && line < MOST_LINES; line++) {
                if (rowCounts[line] == NONE) {
                    rowCounts[line] = layers.isVisible(line) ? measured(line).rowCount : 0;
                }
                firstRows[line] = allRows;
                allRows += rowCounts[line];
            }
            isCounted = true;
        }

        /** The layout of a line, with its rows, but not yet turned round. */
        Layout measured(int line) {
            if (laidLine != line) {
                layout.collect(text.at(line), layers, line);
                layout.wrap(width, indent);
                laidLine = line;
                isTurned = false;
            }
            return layout;
        }

        /** The layout of the line that was measured last, with its rows as they stand on the screen. */
        Layout turned() {
            if (!isTurned) {
                directions.find(layout);
                layout.turnRows();
                isTurned = true;
            }
            return layout;
        }

        int rowCount(int line) {
            return line >= 0 && line < MOST_LINES ? rowCounts[line] : 0;
        }

        private int firstRow(int line) {
            return line >= 0 && line < MOST_LINES ? firstRows[line] : 0;
        }

        int lineOfRow(int row) {
            for (int line = 0; line < text.count; line++) {
                if (row < firstRow(line) + rowCount(line)) {
                    return line;
                }
            }
            return 0;
        }

        int rowInLine(int row, int line) {
            return row - firstRow(line);
        }

        int rowDown(int line, int place, int side) {
            Layout it = measured(line);
            return firstRow(line) + it.rowOfEdge(it.edgeAt(place, side));
        }

        int columnDown(int line, int place, int side) {
            measured(line);
            Layout it = turned();
            return it.columnOfEdge(it.edgeAt(place, side));
        }

        int placeUp(int row, int column) {
            int line = lineOfRow(row);
            measured(line);
            return turned().placeUp(rowInLine(row, line), column);
        }

        int marksOfRow(int row) {
            int line = lineOfRow(row);
            if (row != firstRow(line)) {
                return 0;
            }
            return text.markedFrom(line, Math.max(line, layers.closedEnd(line)));
        }

        int wideCells(int from, int to) {
            int found = 0;
            for (int row = from; row < to; row++) {
                int line = lineOfRow(row);
                found += measured(line).wideCells(rowInLine(row, line));
            }
            return found;
        }

        // -- cursor and top, as they are taken

        int takenLine(Place place) {
            int line = place.line;
            while (line > 0 && !layers.isVisible(line)) {
                line--;
            }
            return line;
        }

        int takenAt(Place place) {
            return takenLine(place) == place.line ? place.at : 0;
        }

        int cursorRow() {
            return rowDown(takenLine(cursor), takenAt(cursor), BEFORE);
        }

        int cursorColumn() {
            return columnDown(takenLine(cursor), takenAt(cursor), BEFORE);
        }

        int topRow() {
            return rowDown(takenLine(top), takenAt(top), BEFORE);
        }

        private int marginFor(int height) {
            return Math.min(margin, (height - 1) / 2);
        }

        private void setTop(int row) {
            int line = lineOfRow(row);
            top.set(line, measured(line).firstPlace(rowInLine(row, line)));
        }

        /** Brings the top to where the row of the cursor is between the margins. */
        void follow(int height) {
            int row = cursorRow();
            int first = topRow();
            int room = marginFor(height);
            if (row < first + room) {
                setTop(Math.max(0, row - room));
            } else if (row > first + height - 1 - room) {
                setTop(Math.max(0, row + room - height + 1));
            }
        }

        void putCursor(int line, int place) {
            cursor.set(line, place);
            wanted = cursorColumn();
        }

        // -- moves

        /** Moves the cursor; tells whether it is another one then. */
        boolean go(int move, int height) {
            goal.set(takenLine(cursor), takenAt(cursor));
            if (move == LEFT) {
                aimLeft();
            } else if (move == RIGHT) {
                aimRight();
            } else if (move == HOME || move == END) {
                aimInRow(move);
            } else {
                aimAtRow(rowOfMove(move, height));
            }
            boolean isAnother = takeGoal();
            if (move == LEFT || move == RIGHT || move == HOME || move == END) {
                wanted = cursorColumn();
            }
            return isAnother;
        }

        /** Lets the cursor go to the goal; tells whether it is another one then. */
        private boolean takeGoal() {
            if (goal.isAt(takenLine(cursor), takenAt(cursor))) {
                return false;
            }
            cursor.set(goal.line, goal.at);
            return true;
        }

        private void aimLeft() {
            int place = measured(goal.line).shownAhead(goal.at);
            if (place != NONE) {
                goal.set(goal.line, place);
                return;
            }
            for (int line = goal.line - 1; line >= 0; line--) {
                if (rowCount(line) > 0) {
                    goal.set(line, text.at(line).size);
                    return;
                }
            }
        }

        private void aimRight() {
            int place = measured(goal.line).shownBehind(goal.at);
            if (place != NONE) {
                goal.set(goal.line, place);
                return;
            }
            for (int line = goal.line + 1; line < text.count; line++) {
                if (rowCount(line) > 0) {
                    goal.set(line, measured(line).shownBehind(NONE));
                    return;
                }
            }
        }

        private void aimInRow(int move) {
            int row = rowInLine(rowDown(goal.line, goal.at, BEFORE), goal.line);
            Layout it = measured(goal.line);
            int place = move == HOME ? it.firstPlace(row) : it.lastPlace(row);
            if (place != NONE) {
                goal.set(goal.line, place);
            }
        }

        private int rowOfMove(int move, int height) {
            int row = rowDown(goal.line, goal.at, BEFORE);
            int many = move == UP || move == DOWN ? 1 : height;
            boolean isUp = move == UP || move == PAGE_UP;
            return isUp ? Math.max(0, row - many) : Math.min(allRows - 1, row + many);
        }

        /** Aims up from a row and the wanted column; there is nothing to go to in the row of the cursor itself. */
        private void aimAtRow(int row) {
            if (row != rowDown(goal.line, goal.at, BEFORE)) {
                goal.set(lineOfRow(row), placeUp(row, wanted));
            }
        }

        int scrollBy(int many, int height) {
            setTop(Math.max(0, Math.min(allRows - 1, topRow() + many)));
            int first = topRow();
            int room = marginFor(height);
            int last = first + height - 1 - room;
            int row = cursorRow();
            int nearest = Math.min(allRows - 1, Math.min(last, Math.max(first + room, row)));
            // Unlike a move, this takes the cursor out of an invisible line also to where it is taken to be.
            if (nearest != row) {
                cursor.set(lineOfRow(nearest), placeUp(nearest, wanted));
            }
            return first;
        }

        // -- drawing

        int redraw(int height) {
            Picture fresh = spare;
            takePicture(fresh, topRow(), height);
            drawnShift = 0;
            int fewest = fresh.differentRows(drawn, 0);
            for (int away = 1; away < SCREEN; away++) {
                int later = fresh.differentRows(drawn, away);
                if (later < fewest) {
                    fewest = later;
                    drawnShift = away;
                }
                int earlier = fresh.differentRows(drawn, -away);
                if (earlier < fewest) {
                    fewest = earlier;
                    drawnShift = -away;
                }
            }
            spare = drawn;
            drawn = fresh;
            return fewest;
        }

        private void takePicture(Picture picture, int first, int height) {
            picture.start();
            for (int row = first; row < first + height; row++) {
                if (row < allRows) {
                    int line = lineOfRow(row);
                    measured(line);
                    picture.addRow(turned(), rowInLine(row, line), marksOfRow(row));
                } else {
                    picture.addNothing();
                }
            }
        }
    }

    /** The open panes and how they share the screen. */
    private static final class Stack {
        private final boolean[] isOpen = new boolean[PANES];
        private final int[] weight = new int[PANES];
        private final int[] least = new int[PANES];
        private final int[] locked = new int[PANES];
        private final int[] heights = new int[PANES];
        /** Whether a pane takes its part of what locked ones leave. */
        private final boolean[] isSharing = new boolean[PANES];

        Stack() {
            for (int pane = 0; pane < PANES; pane++) {
                weight[pane] = 1;
                least[pane] = 3;
                locked[pane] = NONE;
            }
            isOpen[0] = true;
            heights[0] = SCREEN;
        }

        private boolean isPane(int pane) {
            return pane >= 0 && pane < PANES;
        }

        boolean isOpen(int pane) {
            return isPane(pane) && isOpen[pane];
        }

        int heightOf(int pane) {
            return isPane(pane) ? heights[pane] : 0;
        }

        int openOnes() {
            int many = 0;
            for (int pane = 0; pane < PANES; pane++) {
                many += isOpen[pane] ? 1 : 0;
            }
            return many;
        }

        private int needOf(int pane) {
            if (!isPane(pane)) {
                return 0;
            }
            return locked[pane] == NONE ? least[pane] : locked[pane];
        }

        boolean hasRoomFor(int pane) {
            return hasRoomFor(pane, needOf(pane));
        }

        boolean hasRoomFor(int pane, int need) {
            int all = need;
            for (int other = 0; other < PANES; other++) {
                if (other != pane && isOpen[other]) {
                    all += needOf(other);
                }
            }
            return all <= SCREEN;
        }

        void setOpen(int pane, boolean isOpenNow) {
            if (isPane(pane)) {
                isOpen[pane] = isOpenNow;
                deal();
            }
        }

        void setShare(int pane, int itsWeight, int itsLeast, int itsLocked) {
            if (isPane(pane)) {
                weight[pane] = itsWeight;
                least[pane] = itsLeast;
                locked[pane] = itsLocked;
                deal();
            }
        }

        private void deal() {
            findSharing();
            int rest = SCREEN;
            int weights = 0;
            for (int pane = 0; pane < PANES; pane++) {
                heights[pane] = isOpen[pane] && !isSharing[pane] ? locked[pane] : 0;
                rest -= heights[pane];
                weights += isSharing[pane] ? weight[pane] : 0;
            }
            giveRest(Math.max(0, rest), weights);
            for (int turn = 0; turn < SCREEN; turn++) {
                int poor = firstPoor();
                int rich = richest();
                if (!isPane(poor) || !isPane(rich)) {
                    return;
                }
                heights[poor]++;
                heights[rich]--;
            }
        }

        /** The last open pane shares, even if it is locked, when no other one does: the screen has to be filled. */
        private void findSharing() {
            int last = NONE;
            boolean areAllLocked = true;
            for (int pane = 0; pane < PANES; pane++) {
                isSharing[pane] = isOpen[pane] && locked[pane] == NONE;
                last = isOpen[pane] ? pane : last;
                areAllLocked = areAllLocked && !isSharing[pane];
            }
            if (areAllLocked && isPane(last)) {
                isSharing[last] = true;
            }
        }

        private void giveRest(int rest, int weights) {
            int left = rest;
            for (int pane = 0; pane < PANES; pane++) {
                if (isSharing[pane] && weights > 0) {
                    heights[pane] = rest * weight[pane] / weights;
                    left -= heights[pane];
                }
            }
            for (int pane = 0; pane < PANES; pane++) {
                if (isSharing[pane] && left > 0) {
                    heights[pane]++;
                    left--;
                }
            }
        }

        private int firstPoor() {
            for (int pane = 0; pane < PANES; pane++) {
                if (isSharing[pane] && heights[pane] < least[pane]) {
                    return pane;
                }
            }
            return NONE;
        }

        private int richest() {
            int found = NONE;
            int most = 0;
            for (int pane = 0; pane < PANES; pane++) {
                if (isSharing[pane] && heights[pane] - least[pane] > most) {
                    most = heights[pane] - least[pane];
                    found = pane;
                }
            }
            return found;
        }
    }
}
