/**
 * What can be asked of an object, told in one text, so that two objects can be compared. The text and what is on the
 * screen are asked first; what is hidden (the log, what was drawn, layers, shares) shows in what further calls answer,
 * so the object is of no use any more then. Only the first rows and cells are told: an object has 512 calls.
 */
final class Whole {
    private static final int PANES = 4;
    private static final int MOST_ROWS = 6;
    private static final int MOST_CELLS = 8;

    private Whole() {
    }

    static String of(PaneLayers x) {
        StringBuilder told = new StringBuilder(Check.text(x));
        for (int pane = 0; pane < PANES; pane++) {
            told.append("\npane ").append(pane).append(": height ").append(x.height(pane));
            told.append(", shift ").append(x.shift(pane)).append(", cursor ").append(Check.cursor(x, pane));
            rows(x, pane, told);
        }
        drawnAndLogged(x, told);
        for (int pane = 0; pane < PANES; pane++) {
            layers(x, pane, told);
        }
        shares(x, told);
        return told.toString();
    }

    private static void rows(PaneLayers x, int pane, StringBuilder told) {
        int rows = x.rows(pane);
        told.append(", rows ").append(rows);
        for (int row = 0; row < Math.min(rows, MOST_ROWS); row++) {
            int cells = x.clusters(pane, row);
            told.append("\n  row of ").append(x.lineAt(pane, row)).append(", marks ").append(x.marksAt(pane, row));
            told.append(", clusters ").append(cells).append(": ");
            for (int cell = 0; cell < Math.min(cells, MOST_CELLS); cell++) {
                told.append((char) x.cell(pane, row, cell, 0));
            }
        }
    }

    private static void drawnAndLogged(PaneLayers x, StringBuilder told) {
        int open = PaneLayers.NONE;
        for (int pane = 0; pane < PANES; pane++) {
            if (x.height(pane) > 0) {
                open = pane;
                told.append("\nto draw ").append(x.draw(pane)).append(" with ").append(x.shift(pane));
            }
        }
        x.put(open, 0, 0);
        for (int pane = 0; pane < PANES; pane++) {
            told.append("\nplayed ").append(x.play(pane, open)).append(" to ").append(Check.cursor(x, open));
        }
    }

    /** Takes all layers away, the first ones first. */
    private static void layers(PaneLayers x, int pane, StringBuilder told) {
        told.append("\nlayers of ").append(pane).append(":");
        boolean isMore = true;
        for (int i = 0; i < 7 && isMore; i++) {
            isMore = add(told, () -> x.show(pane, 0));
            told.append(" rows ").append(x.rows(pane)).append(" of ").append(x.clusters(pane, 0));
        }
        isMore = true;
        for (int i = 0; i < 7 && isMore; i++) {
            isMore = add(told, () -> x.dropVirtual(pane, 0));
            told.append(" rows ").append(x.rows(pane)).append(" of ").append(x.clusters(pane, 0));
        }
        isMore = true;
        for (int i = 0; i < 7 && isMore; i++) {
            int fold = i;
            isMore = add(told, () -> x.setClosed(pane, fold, false) ? 1 : 0);
            told.append(" rows ").append(x.rows(pane));
        }
    }

    private static void shares(PaneLayers x, StringBuilder told) {
        told.append("\nopened:");
        for (int pane = 0; pane < PANES; pane++) {
            int its = pane;
            add(told, () -> x.open(its));
            told.append(" of");
            for (int other = 0; other < PANES; other++) {
                told.append(" ").append(x.height(other));
            }
        }
    }

    /** Adds what a call answers; tells whether it answered. */
    private static boolean add(StringBuilder told, Check.Call call) {
        try {
            told.append(" ").append(call.answer());
            return true;
        } catch (IndexOutOfBoundsException | IllegalArgumentException | IllegalStateException thrown) {
            told.append(" ").append(thrown.getClass().getSimpleName());
            return false;
        }
    }
}
