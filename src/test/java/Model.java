import java.util.ArrayList;
import java.util.Arrays;
import java.util.List;

/**
 * The document told once more, in the plainest way: nothing is kept between calls but what the document keeps, and
 * all rows are laid anew for each question. Random runs compare the class with it.
 */
final class Model {
    static final int NONE = -1;
    private static final IndexOutOfBoundsException RANGE = new IndexOutOfBoundsException();
    private static final IllegalArgumentException ARGUMENT = new IllegalArgumentException();
    private static final IllegalStateException STATE = new IllegalStateException();

    /** A cluster in a row. */
    private static final class Cluster {
        char sign;
        int many = 1;
        int begin = NONE;
        int told;
        int width;
        int column;
        int level;
        char way = ' ';

        boolean isBlank() {
            return sign == ' ' || sign == '\t';
        }

        char kind() {
            char small = Character.toLowerCase(sign);
            if (small >= 'a' && small <= 'm') {
                return 'L';
            }
            return small >= 'n' && small <= 'z' ? 'R' : Character.isDigit(sign) ? 'D' : 'N';
        }
    }

    /** A row of a pane. */
    private static final class Row {
        int line;
        boolean isFirst;
        boolean isLast;
        int column;
        final List<Cluster> logical = new ArrayList<>();
        List<Cluster> screen;

        int place(int length) {
            for (Cluster c : logical) {
                if (c.begin != NONE) {
                    return c.begin;
                }
            }
            return isLast ? length : 0;
        }
    }

    /** Hidden span {line, from, to}, fold {first, last, closed} and virtual text with their numbers. */
    private static final class Pane {
        final List<int[]> spans = new ArrayList<>();
        final List<long[]> virtuals = new ArrayList<>();
        final List<int[]> folds = new ArrayList<>();
        int[] cursor = {0, 0};
        int[] top = {0, 0};
        int wanted;
        int width = 20;
        int indent;
        int margin;
        boolean isOpen;
        int weight = 1;
        int least = 3;
        int locked = NONE;
        List<String> drawn = new ArrayList<>();
        int shift;
    }

    private final List<StringBuilder> text = new ArrayList<>();
    private final List<Boolean> marks = new ArrayList<>();
    private final List<Pane> panes = new ArrayList<>();
    private final List<int[]> log = new ArrayList<>();

    Model() {
        text.add(new StringBuilder());
        marks.add(false);
        for (int i = 0; i < 4; i++) {
            panes.add(new Pane());
        }
        panes.get(0).isOpen = true;
    }

    // ---- checks

    private Pane pane(long number) {
        if (number < 0 || number > 3) {
            throw RANGE;
        }
        return panes.get((int) number);
    }

    private StringBuilder line(long number) {
        if (number < 0 || number >= text.size()) {
            throw RANGE;
        }
        return text.get((int) number);
    }

    private static void argument(boolean isGood) {
        if (!isGood) {
            throw ARGUMENT;
        }
    }

    private static void state(boolean isGood) {
        if (!isGood) {
            throw STATE;
        }
    }

    private static boolean isSign(long sign) {
        return sign == 9 || sign >= 32 && sign <= 126;
    }

    // ---- text

    long lines() {
        return text.size();
    }

    long length(int line) {
        return line(line).length();
    }

    long sign(int line, int place) {
        argument(place >= 0 & place < line(line).length());
        return line(line).charAt(place);
    }

    long insert(int line, int place, int sign) {
        argument(place >= 0 & place <= line(line).length() & isSign(sign));
        state(line(line).length() < 80);
        putIn(line, place, sign);
        return length(line);
    }

    private void putIn(int line, int place, int sign) {
        line(line).insert(place, (char) sign);
        for (Pane p : panes) {
            for (int[] s : p.spans) {
                if (s[0] == line) {
                    s[1] += s[1] >= place ? 1 : 0;
                    s[2] += s[2] > place ? 1 : 0;
                }
            }
            for (long[] v : p.virtuals) {
                v[1] += v[0] == line && v[1] > place ? 1 : 0;
            }
            for (int[] c : List.of(p.cursor, p.top)) {
                c[1] += c[0] == line && c[1] > place ? 1 : 0;
            }
        }
    }

    private static int gone(long at, int from, int to) {
        return (int) (at <= from ? at : at < to ? from : at - (to - from));
    }

    long remove(int line, int from, int to) {
        int length = line(line).length();
        argument(to >= 1 & to <= length & from >= 0 & from < to);
        line(line).delete(from, to);
        for (Pane p : panes) {
            for (int[] s : p.spans) {
                if (s[0] == line) {
                    s[1] = gone(s[1], from, to);
                    s[2] = gone(s[2], from, to);
                }
            }
            p.spans.removeIf(s -> s[1] == s[2]);
            for (long[] v : p.virtuals) {
                v[1] = v[0] == line ? gone(v[1], from, to) : v[1];
            }
            for (int[] c : List.of(p.cursor, p.top)) {
                c[1] = c[0] == line ? gone(c[1], from, to) : c[1];
            }
        }
        return line(line).length();
    }

    long breakLine(int line, int place) {
        argument(place >= 0 & place <= line(line).length());
        state(text.size() < 60);
        text.add(line + 1, new StringBuilder(line(line).substring(place)));
        line(line).setLength(place);
        marks.add(line + 1, false);
        for (Pane p : panes) {
            for (int[] s : p.spans) {
                if (s[0] > line) {
                    s[0]++;
                } else if (s[0] == line && s[1] >= place) {
                    s[0]++;
                    s[1] -= place;
                    s[2] -= place;
                } else if (s[0] == line) {
                    s[2] = Math.min(s[2], place);
                }
            }
            for (long[] v : p.virtuals) {
                boolean goes = v[0] == line && v[1] > place;
                v[1] -= goes ? place : 0;
                v[0] += goes || v[0] > line ? 1 : 0;
            }
            for (int[] c : List.of(p.cursor, p.top)) {
                boolean goes = c[0] == line && c[1] > place;
                c[1] -= goes ? place : 0;
                c[0] += goes || c[0] > line ? 1 : 0;
            }
            for (int[] f : p.folds) {
                f[0] += f[0] > line ? 1 : 0;
                f[1] += f[1] >= line ? 1 : 0;
            }
        }
        return text.size();
    }

    long join(int line) {
        int length = line(line).length();
        int both = length + line(line + 1).length();
        state(both <= 80);
        line(line).append(text.remove(line + 1));
        boolean second = marks.remove(line + 1);
        marks.set(line, marks.get(line) || second);
        for (Pane p : panes) {
            for (int[] s : p.spans) {
                s[2] += s[0] == line + 1 ? length : 0;
                s[1] += s[0] == line + 1 ? length : 0;
                s[0] -= s[0] > line ? 1 : 0;
            }
            for (long[] v : p.virtuals) {
                v[1] += v[0] == line + 1 ? length : 0;
                v[0] -= v[0] > line ? 1 : 0;
            }
            for (int[] c : List.of(p.cursor, p.top)) {
                c[1] += c[0] == line + 1 ? length : 0;
                c[0] -= c[0] > line ? 1 : 0;
            }
            for (int[] f : p.folds) {
                f[0] -= f[0] > line ? 1 : 0;
                f[1] -= f[1] > line ? 1 : 0;
            }
            p.folds.removeIf(f -> f[0] == f[1]);
        }
        return both;
    }

    long setMark(int line, boolean isMarked) {
        line(line);
        return marks.set(line, isMarked) ? 1 : 0;
    }

    // ---- layers

    long shape(int pane, int width, int indent, int margin) {
        Pane p = pane(pane);
        argument(width >= 10 & width <= 40 & indent >= 0 & indent <= 4 & margin >= 0 & margin <= 3);
        p.width = width;
        p.indent = indent;
        p.margin = margin;
        return 0;
    }

    long hide(int pane, int line, int from, int to) {
        Pane p = pane(pane);
        int length = line(line).length();
        argument(to >= 1 & to <= length & from >= 0 & from < to);
        state(p.spans.size() < 6);
        p.spans.add(new int[] {line, from, to});
        return p.spans.size();
    }

    long show(int pane, int span) {
        Pane p = pane(pane);
        if (span < 0 || span >= p.spans.size()) {
            throw RANGE;
        }
        p.spans.remove(span);
        return p.spans.size();
    }

    private static String signsOf(long signs) {
        StringBuilder told = new StringBuilder();
        for (int i = 0; i < 8; i++) {
            int sign = (int) (signs >>> 8 * i & 255);
            if (sign == 0) {
                break;
            }
            told.append((char) sign);
        }
        return told.toString();
    }

    long addVirtual(int pane, int line, int place, long signs) {
        Pane p = pane(pane);
        argument(place >= 0 & place <= line(line).length());
        String told = signsOf(signs);
        argument(!told.isEmpty());
        argument(told.length() == 8 || signs >>> 8 * told.length() == 0);
        for (int i = 0; i < told.length(); i++) {
            argument(told.charAt(i) >= 32 && told.charAt(i) <= 125);
        }
        state(p.virtuals.size() < 6);
        p.virtuals.add(new long[] {line, place, signs});
        return p.virtuals.size();
    }

    long dropVirtual(int pane, int number) {
        Pane p = pane(pane);
        argument(number >= 0 && number < p.virtuals.size());
        p.virtuals.remove(number);
        return p.virtuals.size();
    }

    long addFold(int pane, int from, int to) {
        Pane p = pane(pane);
        line(from);
        line(to);
        argument(to > from);
        state(p.folds.size() < 6);
        p.folds.add(new int[] {from, to, 0});
        return p.folds.size();
    }

    long setClosed(int pane, int fold, boolean isClosed) {
        Pane p = pane(pane);
        argument(fold >= 0 && fold < p.folds.size());
        int was = p.folds.get(fold)[2];
        p.folds.get(fold)[2] = isClosed ? 1 : 0;
        return was;
    }

    // ---- rows

    private static boolean isVisible(Pane p, int line) {
        return p.folds.stream().noneMatch(f -> f[2] == 1 && line > f[0] && line <= f[1]);
    }

    /** The clusters of a line in a pane, in the order of the text. */
    private List<Cluster> clustersOf(Pane p, int line) {
        String signs = text.get(line).toString();
        List<Cluster> all = new ArrayList<>();
        for (int i = 0; i < signs.length(); i++) {
            if (i > 0 && signs.charAt(i) == '~') {
                all.get(all.size() - 1).many++;
            } else {
                Cluster c = new Cluster();
                c.sign = signs.charAt(i);
                c.begin = i;
                c.told = i;
                all.add(c);
            }
        }
        List<List<Cluster>> ahead = new ArrayList<>();
        for (int i = 0; i <= all.size(); i++) {
            ahead.add(new ArrayList<>());
        }
        for (long[] v : p.virtuals) {
            if (v[0] == line) {
                int at = 0;
                while (at < all.size() && all.get(at).begin < v[1]) {
                    at++;
                }
                for (char sign : signsOf(v[2]).toCharArray()) {
                    Cluster c = new Cluster();
                    c.sign = sign;
                    c.told = (int) v[1];
                    ahead.get(at).add(c);
                }
            }
        }
        List<Cluster> told = new ArrayList<>();
        for (int i = 0; i < all.size(); i++) {
            told.addAll(ahead.get(i));
            int begin = all.get(i).begin;
            if (p.spans.stream().noneMatch(s -> s[0] == line && s[1] <= begin && begin < s[2])) {
                told.add(all.get(i));
            }
        }
        told.addAll(ahead.get(all.size()));
        if (p.folds.stream().anyMatch(f -> f[2] == 1 && f[0] == line)) {
            for (int i = 0; i < 3; i++) {
                Cluster c = new Cluster();
                c.sign = '.';
                c.told = signs.length();
                told.add(c);
            }
        }
        return told;
    }

    private List<Row> rowsOfLine(Pane p, int line) {
        List<Row> rows = new ArrayList<>();
        List<Cluster> all = clustersOf(p, line);
        int base = levels(all);
        List<Cluster> left = new ArrayList<>(all);
        do {
            Row row = new Row();
            row.line = line;
            row.isFirst = rows.isEmpty();
            row.column = rows.isEmpty() ? 0 : p.indent;
            layRow(row, left, p.width);
            rows.add(row);
            row.screen = screenOrder(row, base);
        } while (!left.isEmpty());
        rows.get(rows.size() - 1).isLast = true;
        return rows;
    }

    /** Takes the clusters of one row from those that are left. */
    private static void layRow(Row row, List<Cluster> left, int width) {
        int at = row.column;
        while (!left.isEmpty()) {
            Cluster c = left.get(0);
            c.width = c.sign == '\t' ? 4 - at % 4 : Character.isUpperCase(c.sign) ? 2 : 1;
            if (at + c.width > width) {
                break;
            }
            at += c.width;
            row.logical.add(left.remove(0));
        }
        while (!left.isEmpty() && left.get(0).isBlank()) {
            left.get(0).width = 0;
            row.logical.add(left.remove(0));
        }
        if (left.isEmpty() || row.logical.stream().noneMatch(Cluster::isBlank)) {
            return;
        }
        while (!row.logical.get(row.logical.size() - 1).isBlank()) {
            left.add(0, row.logical.remove(row.logical.size() - 1));
        }
    }

    private static List<Cluster> screenOrder(Row row, int base) {
        for (int i = row.logical.size() - 1; i >= 0 && row.logical.get(i).isBlank(); i--) {
            row.logical.get(i).level = base;
        }
        List<Cluster> order = new ArrayList<>(row.logical);
        for (int level = 200; level > 0; level--) {
            int i = 0;
            while (i < order.size()) {
                int end = i;
                while (end < order.size() && order.get(end).level >= level) {
                    end++;
                }
                java.util.Collections.reverse(order.subList(i, end));
                i = Math.max(end, i + 1);
            }
        }
        int at = row.column;
        for (Cluster c : order) {
            c.column = at;
            at += c.width;
        }
        return order;
    }

    // ---- directions

    /** Sets the levels of a line; tells its base. */
    private static int levels(List<Cluster> line) {
        int base = firstIsRight(line) ? 1 : 0;
        levels(line, base);
        return base;
    }

    private static boolean firstIsRight(List<Cluster> row) {
        for (Cluster c : outside(row, null)) {
            if (c.kind() == 'L' || c.kind() == 'R') {
                return c.kind() == 'R';
            }
        }
        return false;
    }

    /** What is not between matched isolating signs; what is, goes to a list of lists. */
    private static List<Cluster> outside(List<Cluster> row, List<List<Cluster>> inside) {
        List<Cluster> told = new ArrayList<>();
        int i = 0;
        while (i < row.size()) {
            told.add(row.get(i));
            int end = row.get(i).sign == '<' ? closer(row, i) : NONE;
            if (end != NONE) {
                if (inside != null) {
                    inside.add(row.subList(i + 1, end));
                }
                told.add(row.get(end));
                i = end;
            }
            i++;
        }
        return told;
    }

    private static int closer(List<Cluster> row, int from) {
        int deep = 0;
        for (int i = from; i < row.size(); i++) {
            deep += row.get(i).sign == '<' ? 1 : row.get(i).sign == '>' ? -1 : 0;
            if (deep == 0) {
                return i;
            }
        }
        return NONE;
    }

    private static void levels(List<Cluster> row, int base) {
        List<List<Cluster>> inside = new ArrayList<>();
        List<Cluster> chain = outside(row, inside);
        for (List<Cluster> part : inside) {
            int odd = firstIsRight(part) ? 1 : 0;
            int its = base + 1;
            while (its % 2 != odd) {
                its++;
            }
            levels(part, its);
        }
        char along = base % 2 == 1 ? 'R' : 'L';
        char last = along;
        for (Cluster c : chain) {
            c.way = ' ';
            if (c.kind() == 'L' || c.kind() == 'R') {
                last = c.kind();
                c.way = last;
            } else if (c.kind() == 'D') {
                c.way = last;
            }
        }
        brackets(chain, along);
        neutral(chain, along);
        for (Cluster c : chain) {
            int level = base;
            while (level % 2 != (c.way == 'R' ? 1 : 0)) {
                level++;
            }
            c.level = level + (c.kind() == 'D' && c.way == 'R' ? 1 : 0);
        }
    }

    private static void brackets(List<Cluster> chain, char along) {
        int[] closing = new int[chain.size()];
        Arrays.fill(closing, NONE);
        List<Integer> open = new ArrayList<>();
        for (int i = 0; i < chain.size(); i++) {
            char sign = chain.get(i).sign;
            if (sign == '(' || sign == '[') {
                open.add(i);
            }
            if (sign == ')' || sign == ']') {
                int k = open.size() - 1;
                while (k >= 0 && chain.get(open.get(k)).sign != (sign == ')' ? '(' : '[')) {
                    k--;
                }
                if (k >= 0) {
                    closing[open.get(k)] = i;
                    open = new ArrayList<>(open.subList(0, k));
                }
            }
        }
        char against = along == 'L' ? 'R' : 'L';
        for (int i = 0; i < chain.size(); i++) {
            if (closing[i] == NONE) {
                continue;
            }
            StringBuilder between = new StringBuilder();
            for (Cluster c : chain.subList(i + 1, closing[i])) {
                between.append(c.way);
            }
            StringBuilder before = new StringBuilder();
            for (Cluster c : chain.subList(0, i)) {
                before.append(c.way);
            }
            String ahead = before.toString().trim();
            char way = ' ';
            if (between.indexOf("" + along) >= 0) {
                way = along;
            } else if (between.indexOf("" + against) >= 0) {
                way = ahead.endsWith("" + against) ? against : along;
            }
            chain.get(i).way = way;
            chain.get(closing[i]).way = way;
        }
    }

    private static void neutral(List<Cluster> chain, char along) {
        char[] ways = new char[chain.size()];
        for (int i = 0; i < ways.length; i++) {
            ways[i] = chain.get(i).way;
            if (ways[i] == ' ') {
                char before = along;
                char behind = along;
                for (int k = i; k >= 0; k--) {
                    if (chain.get(k).way != ' ') {
                        before = chain.get(k).way;
                        break;
                    }
                }
                for (int k = i; k < ways.length; k++) {
                    if (chain.get(k).way != ' ') {
                        behind = chain.get(k).way;
                        break;
                    }
                }
                ways[i] = before == behind ? before : along;
            }
        }
        for (int i = 0; i < ways.length; i++) {
            chain.get(i).way = ways[i];
        }
    }

    // ---- places and screen

    private List<Row> allRows(Pane p) {
        List<Row> all = new ArrayList<>();
        for (int line = 0; line < text.size(); line++) {
            if (isVisible(p, line)) {
                all.addAll(rowsOfLine(p, line));
            }
        }
        return all;
    }

    private Row row(List<Row> all, long row) {
        if (row < 0 || row >= all.size()) {
            throw RANGE;
        }
        return all.get((int) row);
    }

    long rows(int pane) {
        return allRows(pane(pane)).size();
    }

    long rowsOf(int pane, int line) {
        Pane p = pane(pane);
        line(line);
        return isVisible(p, line) ? rowsOfLine(p, line).size() : 0;
    }

    long clusters(int pane, int row) {
        return row(allRows(pane(pane)), row).logical.size();
    }

    long cell(int pane, int row, int cell, int what) {
        Row r = row(allRows(pane(pane)), row);
        if (cell < 0 || cell >= r.screen.size()) {
            throw RANGE;
        }
        Cluster c = r.screen.get(cell);
        argument(what >= 0 && what <= 5);
        return new int[] {c.sign, c.many, c.column, c.width, c.level, c.begin}[what];
    }

    /** Row and column of a place of a visible line. */
    private int[] down(Pane p, int line, int place, int side) {
        List<Row> all = allRows(p);
        int first = NONE;
        int[] ahead = null;
        int[] behind = null;
        int[] firstAhead = null;
        int[] lastBehind = null;
        for (int r = 0; r < all.size(); r++) {
            if (all.get(r).line != line) {
                continue;
            }
            first = first == NONE ? r : first;
            for (Cluster c : all.get(r).logical) {
                if (c.begin == NONE) {
                    continue;
                }
                int[] low = {r, c.column};
                int[] high = {r, c.column + c.width};
                int[] its = c.level % 2 == 0 ? low : high;
                int[] other = c.level % 2 == 0 ? high : low;
                firstAhead = firstAhead == null ? its : firstAhead;
                lastBehind = other;
                ahead = ahead == null && c.begin >= place ? its : ahead;
                behind = c.begin + c.many <= place ? other : behind;
            }
        }
        if (firstAhead == null) {
            return new int[] {first, 0};
        }
        if (side == 0) {
            return ahead == null ? lastBehind : ahead;
        }
        return behind == null ? firstAhead : behind;
    }

    long rowAt(int pane, int line, int place, int side) {
        Pane p = pane(pane);
        argument(place >= 0 & place <= line(line).length() & side >= 0 & side <= 1);
        return isVisible(p, line) ? down(p, line, place, side)[0] : NONE;
    }

    long columnAt(int pane, int line, int place, int side) {
        Pane p = pane(pane);
        argument(place >= 0 & place <= line(line).length() & side >= 0 & side <= 1);
        return isVisible(p, line) ? down(p, line, place, side)[1] : NONE;
    }

    long lineAt(int pane, int row) {
        return row(allRows(pane(pane)), row).line;
    }

    private int up(Row row, int column) {
        if (row.screen.isEmpty()) {
            return text.get(row.line).length();
        }
        for (Cluster c : row.screen) {
            if (column >= c.column && column < c.column + c.width) {
                return c.told;
            }
        }
        if (column < row.screen.get(0).column) {
            return row.screen.get(0).told;
        }
        for (int i = row.screen.size() - 1; i >= 0; i--) {
            if (row.screen.get(i).width > 0) {
                return row.screen.get(i).told;
            }
        }
        return row.screen.get(row.screen.size() - 1).told;
    }

    long placeAt(int pane, int row, int column) {
        Row r = row(allRows(pane(pane)), row);
        argument(column >= 0 && column <= 39);
        return up(r, column);
    }

    private int marksOf(Pane p, Row r) {
        if (!r.isFirst) {
            return 0;
        }
        int last = r.line;
        for (int[] f : p.folds) {
            last = f[2] == 1 && f[0] == r.line ? Math.max(last, f[1]) : last;
        }
        int told = 0;
        for (int line = r.line; line <= last; line++) {
            told += marks.get(line) ? 1 : 0;
        }
        return told;
    }

    long marksAt(int pane, int row) {
        Pane p = pane(pane);
        return marksOf(p, row(allRows(p), row));
    }

    long minimap(int pane, int part) {
        List<Row> all = allRows(pane(pane));
        argument(part >= 0 && part <= 7);
        int told = 0;
        for (int r = part * all.size() / 8; r < (part + 1) * all.size() / 8; r++) {
            told += (int) all.get(r).logical.stream().filter(c -> c.width > 0).count();
        }
        return told;
    }

    // ---- stack

    private static int need(Pane p) {
        return p.locked == NONE ? p.least : p.locked;
    }

    private int needOfOpen() {
        return panes.stream().filter(p -> p.isOpen).mapToInt(Model::need).sum();
    }

    private int heightOf(Pane asked) {
        if (!asked.isOpen) {
            return 0;
        }
        List<Pane> open = new ArrayList<>(panes.stream().filter(p -> p.isOpen).toList());
        List<Pane> free = new ArrayList<>(open.stream().filter(p -> p.locked == NONE).toList());
        if (free.isEmpty()) {
            free.add(open.get(open.size() - 1));
        }
        if (!free.contains(asked)) {
            return asked.locked;
        }
        int rest = 24;
        for (Pane p : open) {
            rest -= free.contains(p) ? 0 : p.locked;
        }
        int weights = free.stream().mapToInt(p -> p.weight).sum();
        int[] heights = new int[free.size()];
        for (int i = 0; i < heights.length; i++) {
            heights[i] = rest * free.get(i).weight / weights;
        }
        int given = Arrays.stream(heights).sum();
        for (int i = 0; given < rest; i = (i + 1) % heights.length) {
            heights[i]++;
            given++;
        }
        while (true) {
            int poor = NONE;
            int rich = NONE;
            for (int i = heights.length - 1; i >= 0; i--) {
                int more = heights[i] - free.get(i).least;
                poor = more < 0 ? i : poor;
                if (more > 0 && (rich == NONE || more >= heights[rich] - free.get(rich).least)) {
                    rich = i;
                }
            }
            if (poor == NONE || rich == NONE) {
                return heights[free.indexOf(asked)];
            }
            heights[poor]++;
            heights[rich]--;
        }
    }

    long open(int pane) {
        Pane p = pane(pane);
        state(!p.isOpen && needOfOpen() + need(p) <= 24);
        p.isOpen = true;
        return heightOf(p);
    }

    private int openOnes() {
        return (int) panes.stream().filter(p -> p.isOpen).count();
    }

    long close(int pane) {
        Pane p = pane(pane);
        state(p.isOpen && openOnes() > 1);
        p.isOpen = false;
        return openOnes();
    }

    long share(int pane, int weight, int least, int locked) {
        Pane p = pane(pane);
        argument(weight >= 1 & weight <= 9 & least >= 1 & least <= 8);
        argument(locked == NONE || locked >= 1 && locked <= 16);
        state(!p.isOpen || needOfOpen() - need(p) + (locked == NONE ? least : locked) <= 24);
        p.weight = weight;
        p.least = least;
        p.locked = locked;
        return heightOf(p);
    }

    long height(int pane) {
        return heightOf(pane(pane));
    }

    // ---- cursors

    private int[] taken(Pane p, int[] place) {
        int line = place[0];
        while (!isVisible(p, line)) {
            line--;
        }
        return new int[] {line, line == place[0] ? place[1] : 0};
    }

    private int[] downTaken(Pane p, int[] place) {
        int[] its = taken(p, place);
        return down(p, its[0], its[1], 0);
    }

    private int marginOf(Pane p) {
        return Math.min(p.margin, (heightOf(p) - 1) / 2);
    }

    private void setTop(Pane p, int row) {
        Row r = allRows(p).get(row);
        p.top = new int[] {r.line, r.place(text.get(r.line).length())};
    }

    private void follow(Pane p) {
        int row = downTaken(p, p.cursor)[0];
        int first = downTaken(p, p.top)[0];
        int last = first + heightOf(p) - 1;
        if (row < first + marginOf(p)) {
            setTop(p, Math.max(row - marginOf(p), 0));
        } else if (row > last - marginOf(p)) {
            setTop(p, first + row - (last - marginOf(p)));
        }
    }

    long put(int pane, int line, int place) {
        Pane p = pane(pane);
        argument(place >= 0 & place <= line(line).length());
        state(p.isOpen && isVisible(p, line));
        p.cursor = new int[] {line, place};
        p.wanted = downTaken(p, p.cursor)[1];
        follow(p);
        return downTaken(p, p.cursor)[0];
    }

    /** The shown places of a line. */
    private List<Integer> shown(Pane p, int line) {
        List<Integer> told = new ArrayList<>();
        for (Cluster c : clustersOf(p, line)) {
            if (c.begin != NONE) {
                told.add(c.begin);
            }
        }
        told.add(text.get(line).length());
        return told;
    }

    private int[] left(Pane p, int[] at) {
        List<Integer> its = shown(p, at[0]);
        its.removeIf(place -> place >= at[1]);
        if (!its.isEmpty()) {
            return new int[] {at[0], its.get(its.size() - 1)};
        }
        for (int line = at[0] - 1; line >= 0; line--) {
            if (isVisible(p, line)) {
                return new int[] {line, text.get(line).length()};
            }
        }
        return at;
    }

    private int[] right(Pane p, int[] at) {
        List<Integer> its = shown(p, at[0]);
        its.removeIf(place -> place <= at[1]);
        if (!its.isEmpty()) {
            return new int[] {at[0], its.get(0)};
        }
        for (int line = at[0] + 1; line < text.size(); line++) {
            if (isVisible(p, line)) {
                return new int[] {line, shown(p, line).get(0)};
            }
        }
        return at;
    }

    private int[] goal(Pane p, int[] at, int move) {
        List<Row> all = allRows(p);
        int row = down(p, at[0], at[1], 0)[0];
        Row its = all.get(row);
        int length = text.get(at[0]).length();
        switch (move) {
            case 0:
                return left(p, at);
            case 1:
                return right(p, at);
            case 4:
                return new int[] {at[0], its.place(length)};
            case 5:
                int end = NONE;
                for (Cluster c : its.logical) {
                    end = c.begin != NONE ? c.begin : end;
                }
                end = its.isLast ? length : end;
                return end == NONE ? at : new int[] {at[0], end};
            default:
                int many = move == 2 || move == 3 ? 1 : heightOf(p);
                int to = move == 2 || move == 6 ? row - many : row + many;
                to = Math.max(0, Math.min(all.size() - 1, to));
                return to == row ? at : new int[] {all.get(to).line, up(all.get(to), p.wanted)};
        }
    }

    private boolean go(Pane p, int move) {
        int[] at = taken(p, p.cursor);
        int[] to = goal(p, at, move);
        boolean isAnother = !Arrays.equals(at, to);
        if (isAnother) {
            p.cursor = to.clone();
            follow(p);
        }
        if (move == 0 || move == 1 || move == 4 || move == 5) {
            p.wanted = downTaken(p, p.cursor)[1];
        }
        return isAnother;
    }

    long move(int pane, int move) {
        Pane p = pane(pane);
        argument(move >= 0 && move <= 7);
        state(p.isOpen);
        log.add(new int[] {pane, move});
        return go(p, move) ? 1 : 0;
    }

    long play(int from, int to) {
        pane(from);
        Pane p = pane(to);
        state(p.isOpen);
        int moved = 0;
        for (int[] one : log.subList(Math.max(0, log.size() - 50), log.size())) {
            moved += one[0] == from && go(p, one[1]) ? 1 : 0;
        }
        return moved;
    }

    long cursor(int pane, int what) {
        Pane p = pane(pane);
        argument(what >= 0 && what <= 5);
        int[] at = taken(p, p.cursor);
        int[] seen = downTaken(p, p.cursor);
        return new int[] {at[0], at[1], seen[0], seen[1], p.wanted, downTaken(p, p.top)[0]}[what];
    }

    long scroll(int pane, int rows) {
        Pane p = pane(pane);
        argument(rows >= -100 && rows <= 100);
        state(p.isOpen);
        List<Row> all = allRows(p);
        setTop(p, Math.max(0, Math.min(all.size() - 1, downTaken(p, p.top)[0] + rows)));
        int first = downTaken(p, p.top)[0];
        int low = first + marginOf(p);
        int high = first + heightOf(p) - 1 - marginOf(p);
        int row = downTaken(p, p.cursor)[0];
        if (row < low || row > high) {
            int to = Math.min(row < low ? low : high, all.size() - 1);
            p.cursor = to == row ? p.cursor : new int[] {all.get(to).line, up(all.get(to), p.wanted)};
        }
        return first;
    }

    long type(int pane, int sign) {
        Pane p = pane(pane);
        argument(isSign(sign));
        state(p.isOpen);
        int[] at = taken(p, p.cursor);
        state(line(at[0]).length() < 80);
        putIn(at[0], at[1], sign);
        p.cursor = new int[] {at[0], at[1] + 1};
        p.wanted = downTaken(p, p.cursor)[1];
        follow(p);
        return at[1] + 1;
    }

    long typeBox(int pane, int row, int many, int column, int sign) {
        Pane p = pane(pane);
        argument(many >= 1 && many <= 10);
        List<Row> all = allRows(p);
        row(all, row);
        row(all, (long) row + many - 1);
        argument(column >= 0 & column <= 39 & isSign(sign));
        List<int[]> found = new ArrayList<>();
        for (int r = row; r < row + many; r++) {
            int[] at = {all.get(r).line, up(all.get(r), column)};
            if (found.stream().noneMatch(f -> Arrays.equals(f, at))) {
                found.add(at);
            }
        }
        for (int[] f : found) {
            long more = found.stream().filter(g -> g[0] == f[0]).count();
            state(line(f[0]).length() + more <= 80);
        }
        // From the last place of a line on, so that none pushes another one.
        found.sort((f, g) -> f[0] != g[0] ? f[0] - g[0] : g[1] - f[1]);
        for (int[] f : found) {
            putIn(f[0], f[1], sign);
        }
        return found.size();
    }

    // ---- drawing

    private List<String> picture(Pane p) {
        List<Row> all = allRows(p);
        List<String> told = new ArrayList<>();
        int first = downTaken(p, p.top)[0];
        for (int r = first; r < first + heightOf(p); r++) {
            StringBuilder row = new StringBuilder("behind the last");
            if (r < all.size()) {
                row = new StringBuilder("marks " + marksOf(p, all.get(r)));
                for (Cluster c : all.get(r).screen) {
                    row.append(" ").append((int) c.sign).append(",").append(c.many).append(",").append(c.column);
                    row.append(",").append(c.width).append(",").append(c.level);
                }
            }
            told.add(row.toString());
        }
        return told;
    }

    long draw(int pane) {
        Pane p = pane(pane);
        state(p.isOpen);
        List<String> fresh = picture(p);
        int fewest = Integer.MAX_VALUE;
        for (int shift = -30; shift <= 30; shift++) {
            int differ = 0;
            for (int i = 0; i < fresh.size(); i++) {
                boolean isOut = i + shift < 0 || i + shift >= p.drawn.size();
                differ += isOut || !fresh.get(i).equals(p.drawn.get(i + shift)) ? 1 : 0;
            }
            boolean isNearer = Math.abs(shift) <= Math.abs(p.shift);
            if (differ < fewest || differ == fewest && isNearer) {
                fewest = differ;
                p.shift = shift;
            }
        }
        p.drawn = fresh;
        return fewest;
    }

    long shift(int pane) {
        return pane(pane).shift;
    }
}
