/** Promises 9 to 15: lettings, nights, what is undone, what a view shows and whom it suits. */
public final class EveningsTest {
    private static void let() {
        RentedViews x = new RentedViews();
        x.view(0, 5, 30, 0);
        x.view(2, 5, 30, 0);
        x.view(3, 5, 30, 0);
        x.view(4, 9, 31, 0);
        x.renter(5, 100, 3);
        x.renter(4, 15, 6);
        x.renter(5, 29, 0);
        int[][] bad = {{-1, 0}, {4, 0}, {0, -1}, {0, 3}};
        for (int[] b : bad) {
            Due.due(9, "let(" + b[0] + ", " + b[1] + ")", x.let(b[0], b[1]), -2);
        }
        Due.due(9, "a view too large", x.let(0, 1), -3);
        Due.due(9, "a purse too small by 1", x.let(0, 2), -3);
        Due.due(9, "nothing is let", x.count(4) + x.count(5) + x.count(7), 0);
        Due.due(9, "bricks fit always, half is cut, the last of a purse", x.let(3, 1), 15);
        Due.due(9, "about(1, 1)", x.about(1, 1), 0);
        Due.due(9, "a fire, though it suits not", x.let(1, 0), 60);
        Due.due(9, "suits(1, 0, 0)", x.suits(1, 0, 0), 0);
        Due.due(9, "about(0, 1)", x.about(0, 1), 40);
        Due.due(9, "count(3)", x.count(3), 75);
        Due.due(9, "a renter who has one", x.let(2, 0), -3);
        Due.due(9, "a view that is let", x.let(3, 2), -3);
        Due.due(9, "of(3, 6)", x.of(3, 6), 1);
        Due.due(9, "about(0, 3)", x.about(0, 3), 1);
        Due.due(9, "count(4)", x.count(4), 2);
        Due.due(9, "count(5)", x.count(5), 2);
        Due.due(9, "status(1)", x.status(1), 4);
        x.night();
        Due.due(9, "a kitchen, the last of a purse", x.let(2, 0), 40);
        x.night();
        Due.due(9, "an empty purse", x.let(0, 0), -3);
    }

    private static void night() {
        RentedViews x = new RentedViews();
        x.view(0, 1, 3, 0);
        x.renter(1, 10, 6);
        x.let(0, 0);
        Due.due(10, "night()", x.night(), 1);
        Due.due(10, "of(0, 6)", x.of(0, 6), -1);
        Due.due(10, "about(0, 3)", x.about(0, 3), -1);
        Due.due(10, "about(0, 1)", x.about(0, 1), 7);
        Due.due(10, "count(3)", x.count(3), 3);
        Due.due(10, "count(4)", x.count(4), 0);
        Due.due(10, "count(5)", x.count(5), 1);
        Due.due(10, "let(0, 0)", x.let(0, 0), 3);
        for (int e = 2; e <= 110; e++) {
            Due.due(10, "night()", x.night(), e);
        }
        Due.due(10, "what it shows in evening 110", x.of(0, 4), 2);
    }

    private static void undo() {
        RentedViews x = new RentedViews();
        x.view(0, 1, 5, 0);
        x.view(0, 1, 7, 0);
        x.renter(1, 500, 6);
        x.renter(1, 500, 6);
        Due.due(11, "undo() of none", x.undo(), -3);
        x.let(0, 0);
        x.let(1, 1);
        x.night();
        Due.due(11, "count(7)", x.count(7), 3);
        Due.due(11, "a night undone", x.undo(), 12);
        Due.due(11, "of(0, 6)", x.of(0, 6), 0);
        Due.due(11, "of(1, 6)", x.of(1, 6), 1);
        Due.due(11, "count(2)", x.count(2), 0);
        Due.due(11, "a letting undone", x.undo(), 5);
        Due.due(11, "about(1, 1)", x.about(1, 1), 500);
        Due.due(11, "count(5)", x.count(5), 1);
        Due.due(11, "undo()", x.undo(), 0);
        Due.due(11, "undo()", x.undo(), -3);
        Due.due(11, "status(1)", x.status(1), 2);
        x.let(0, 0);
        x.renter(1, 1, 1);
        Due.due(11, "behind a renter", x.undo(), -3);
        x.let(1, 1);
        x.view(1, 1, 1, 1);
        Due.due(11, "behind a view", x.undo(), -3);
        Due.due(11, "what was let is let", x.count(4), 2);
    }

    /** A letting that is undone brings back the one that went out of HISTORY for it. */
    private static void undoOfAFullHistory() {
        RentedViews x = new RentedViews();
        x.view(0, 1, 1, 0);
        x.renter(1, 500, 6);
        x.renter(1, 500, 6);
        x.things(0, 1);
        x.let(0, 1);
        for (int e = 1; e <= 11; e++) {
            x.night();
            x.let(0, 0);
        }
        x.night();
        Due.due(11, "count(5)", x.count(5), 12);
        Due.due(11, "left(0, 0, 0)", x.left(0, 0, 0), 3);
        x.let(0, 0);
        Due.due(11, "count(5)", x.count(5), 12);
        Due.due(11, "left(0, 0, 0) without the first", x.left(0, 0, 0), 1);
        Due.due(11, "left(0, 0, 1) without the first", x.left(0, 0, 1), 1);
        Due.due(11, "undo()", x.undo(), 12);
        Due.due(11, "left(0, 0, 1)", x.left(0, 0, 1), 0);
        Due.due(11, "count(7), one went for the letting", x.count(7), 7);
        for (int i = 0; i < 7; i++) {
            Due.due(11, "undo()", x.undo(), 12 - (i + 1) / 2);
        }
        Due.due(11, "eight at most", x.undo(), -3);
    }

    private static void of() {
        RentedViews x = new RentedViews();
        for (int kind = 0; kind < 6; kind++) {
            x.view(kind, kind + 1, 11 * kind, kind);
        }
        x.renter(9, 999, 6);
        x.let(2, 0);
        x.things(2, 5);
        int[] told = {2, 3, 22, 2, 2, 44, 0, 5};
        for (int what = 0; what < 8; what++) {
            Due.due(12, "of(2, " + what + ")", x.of(2, what), told[what]);
        }
        int[] fees = {0, 11, 44, 43, 22, 55};
        for (int v = 0; v < 6; v++) {
            Due.due(12, "of(" + v + ", 5)", x.of(v, 5), fees[v]);
        }
        x.night();
        int[] shown = {1, 3, 3, 3, 5, 5};
        for (int v = 0; v < 6; v++) {
            Due.due(12, "of(" + v + ", 4)", x.of(v, 4), shown[v]);
        }
        Due.due(12, "of(2, 8)", x.of(2, 8), -10);
        Due.due(12, "of(2, -1)", x.of(2, -1), -10);
        Due.due(12, "of(6, 0)", x.of(6, 0), -10);
        Due.due(12, "of(-1, 0)", x.of(-1, 0), -10);
        Due.due(12, "they count as BAD", x.status(0), 4);
    }

    private static void about() {
        RentedViews x = new RentedViews();
        x.view(0, 1, 10, 0);
        x.view(1, 1, 10, 0);
        x.renter(3, 4, 5);
        x.renter(6, 70, 6);
        x.let(1, 1);
        int[][] told = {{3, 4, 5, -1}, {6, 60, 6, 1}};
        for (int r = 0; r < 2; r++) {
            for (int what = 0; what < 4; what++) {
                Due.due(13, "about(" + r + ", " + what + ")", x.about(r, what), told[r][what]);
            }
        }
        Due.due(13, "about(0, 4)", x.about(0, 4), -10);
        Due.due(13, "about(0, -1)", x.about(0, -1), -10);
        Due.due(13, "about(2, 0)", x.about(2, 0), -10);
        Due.due(13, "about(-1, 0)", x.about(-1, 0), -10);
        Due.due(13, "they count as BAD", x.status(0), 4);
    }

    /** WEATHER 3 of every KIND, in the evenings 0 to 6 and 99. */
    private static void shows() {
        int[][] told = {
            {3, 4, 5, 0, 1, 2, 3, 0}, {3, 5, 1, 3, 5, 1, 3, 3}, {3, 4, 5, 0, 0, 2, 3, 0},
            {3, 3, 3, 3, 3, 3, 3, 3}, {3, 4, 5, 0, 1, 2, 3, 0}, {3, 5, 3, 5, 3, 5, 3, 5}};
        RentedViews x = new RentedViews();
        for (int kind = 0; kind < 6; kind++) {
            x.view(kind, 1, 0, 3);
            for (int i = 0; i < 8; i++) {
                int e = i == 7 ? 99 : i;
                Due.due(14, "shows(" + kind + ", " + e + ")", x.shows(kind, e), told[kind][i]);
            }
        }
        Due.due(14, "shows(0, 100)", x.shows(0, 100), -2);
        Due.due(14, "shows(0, -1)", x.shows(0, -1), -2);
        Due.due(14, "shows(6, 0)", x.shows(6, 0), -2);
        Due.due(14, "shows(-1, 0)", x.shows(-1, 0), -2);
    }

    private static void suits() {
        RentedViews x = new RentedViews();
        x.view(0, 5, 30, 1);
        x.view(2, 5, 30, 1);
        x.view(4, 9, 61, 2);
        x.renter(5, 30, 6);
        x.renter(4, 99, 6);
        x.renter(5, 60, 0);
        x.renter(5, 29, 1);
        int[][] told = {{1, 0, 0, 0}, {0, 0, 1, 0}, {1, 1, 0, 0}};
        for (int v = 0; v < 3; v++) {
            for (int r = 0; r < 4; r++) {
                Due.due(15, "suits(" + v + ", " + r + ", 0)", x.suits(v, r, 0), told[v][r]);
            }
        }
        Due.due(15, "in evening 5", x.suits(0, 2, 5), 1);
        Due.due(15, "in evening 99", x.suits(0, 2, 99), 0);
        Due.due(15, "let(0, 0)", x.let(0, 0), 30);
        Due.due(15, "a view that is let suits nonetheless", x.suits(0, 2, 5), 1);
        Due.due(15, "an empty purse", x.suits(0, 0, 0), 0);
        int[][] bad = {{-1, 0, 0}, {3, 0, 0}, {0, -1, 0}, {0, 4, 0}, {0, 0, -1}, {0, 0, 100}};
        for (int[] b : bad) {
            Due.due(15, "suits(" + b[0] + ", " + b[1] + ", " + b[2] + ")", x.suits(b[0], b[1], b[2]), -2);
        }
    }

    public static void main(String[] args) {
        let();
        night();
        undo();
        undoOfAFullHistory();
        of();
        about();
        shows();
        suits();
        Due.end();
    }
}
