/** Promises 23 to 29: things left, readings, odds, draws. */
public final class SeenTest {
    private static void left() {
        RentedViews x = new RentedViews();
        x.view(0, 1, 1, 0);
        x.view(0, 1, 1, 0);
        x.renter(1, 99, 6);
        x.renter(1, 99, 6);
        x.renter(1, 99, 6);
        x.things(0, 128 | 2);
        x.things(1, 255);
        Due.due(23, "nobody had it", x.left(0, 1, 0), 0);
        Due.due(23, "nobody had it", x.left(0, 7, 1), -1);
        x.night();
        x.night();
        x.let(0, 2);
        x.let(1, 1);
        x.night();
        x.let(0, 0);
        Due.due(23, "renters 0 and 2", x.left(0, 1, 0), 5);
        Due.due(23, "renters 0 and 2", x.left(0, 7, 0), 5);
        Due.due(23, "first in evening 2", x.left(0, 7, 1), 2);
        Due.due(23, "renter 1", x.left(1, 0, 0), 2);
        Due.due(23, "a thing that is not there", x.left(0, 0, 0), -10);
        Due.due(23, "a thing that is not there", x.left(0, 2, 1), -10);
        int[][] bad = {{-1, 0, 0}, {2, 0, 0}, {1, -1, 0}, {1, 8, 0}, {1, 32, 0}, {1, 0, -1}, {1, 0, 2}};
        for (int[] b : bad) {
            Due.due(23, "left(" + b[0] + ", " + b[1] + ", " + b[2] + ")", x.left(b[0], b[1], b[2]), -10);
        }
        Due.due(23, "they count as BAD", x.status(0), 9);
        for (int i = 0; i < 10; i++) {
            x.night();
            x.let(1, 2);
        }
        Due.due(23, "the letting of evening 2 is out of HISTORY", x.left(0, 7, 0), 1);
        Due.due(23, "first in evening 3", x.left(0, 7, 1), 3);
        Due.due(23, "renters 1 and 2", x.left(1, 7, 0), 6);
        x.night();
        x.let(1, 2);
        Due.due(23, "renter 2", x.left(1, 7, 0), 4);
    }

    private static void readings() {
        RentedViews x = new RentedViews();
        Due.due(24, "no view", x.reading(0, 0, 0), -2);
        Due.due(25, "forget() of none", x.forget(), 0);
        x.view(0, 1, 0, 0);
        x.night();
        int[][] bad = {{-1, 0, 0}, {1, 0, 0}, {0, -1, 0}, {0, 100, 0}, {0, 0, -1}, {0, 0, 6}};
        for (int[] b : bad) {
            Due.due(24, "reading(" + b[0] + ", " + b[1] + ", " + b[2] + ")", x.reading(b[0], b[1], b[2]), -2);
        }
        for (int i = 1; i <= 6; i++) {
            Due.due(24, "reading", x.reading(0, i == 6 ? 99 : 0, i - 1), i);
        }
        Due.due(24, "a 7th", x.reading(0, 0, 0), -4);
        Due.due(24, "a bad 7th", x.reading(0, 0, 6), -2);
        Due.due(24, "count(6)", x.count(6), 6);
        Due.due(24, "may still be undone", x.undo(), 0);
        Due.due(24, "readings are not undone", x.count(6), 6);
        Due.due(25, "forget()", x.forget(), 6);
        Due.due(25, "count(6)", x.count(6), 0);
        Due.due(24, "reading", x.reading(0, 0, 0), 1);
    }

    private static void is(RentedViews x, int view, int kinds, int pairs) {
        Due.due(26, "is(" + view + ", 0)", x.is(view, 0), kinds);
        Due.due(26, "is(" + view + ", 1)", x.is(view, 1), pairs);
    }

    private static void guesses() {
        RentedViews x = new RentedViews();
        Due.due(26, "no view", x.is(0, 0), -2);
        Due.due(27, "no view", x.look(0), -2);
        x.view(0, 1, 0, 0);
        x.view(1, 1, 0, 0);
        is(x, 0, 63, 36);
        // in an odd evening all FOGGED ones show 5; in an even one FIRE shows 0 for 1
        Due.due(27, "look(0)", x.look(0), 0);
        x.night();
        Due.due(27, "look(0) in evening 1", x.look(0), 2);
        x.reading(0, 0, 0);
        is(x, 0, 63, 7);
        is(x, 1, 63, 36);
        Due.due(27, "this one too", x.look(0), 1);
        x.night();
        Due.due(27, "not again ahead of evening 7", x.look(0), 7);
        Due.due(27, "the other's readings no matter", x.look(1), 2);
        x.reading(1, 4, 1);
        // FIRE never shows 1; the others by one WEATHER each
        is(x, 1, 59, 5);
        x.reading(0, 1, 5);
        is(x, 0, 32, 1);
        Due.due(27, "one pair: the first", x.look(0), 2);
        x.reading(0, 3, 1);
        is(x, 0, 0, 0);
        Due.due(27, "no pair", x.look(0), -1);
        x.forget();
        x.reading(0, 99, 5);
        // in evening 99 LAKE, STREET, FIRE, KITCHEN, BRICKS by one WEATHER, FOGGED by six
        is(x, 0, 63, 11);
        x.forget();
        x.reading(0, 1, 2);
        x.reading(0, 2, 4);
        // STREET from 0; LAKE, FIRE, BRICKS go by 1, KITCHEN stays, FOGGED shows no 2 in evening 1
        is(x, 0, 2, 1);
        Due.due(26, "is(0, 2)", x.is(0, 2), -2);
        Due.due(26, "is(0, -1)", x.is(0, -1), -2);
        Due.due(26, "is(2, 0)", x.is(2, 0), -2);
        Due.due(26, "is(-1, 0)", x.is(-1, 0), -2);
        Due.due(27, "look(2)", x.look(2), -2);
        Due.due(27, "look(-1)", x.look(-1), -2);
        Due.due(26, "status(0)", x.status(0), 8);
    }

    private static void odds(RentedViews x, int o, long above, long below) {
        Due.due(28, "odds(" + o + ")", x.odds(o), 1);
        Due.due(30, "part(0) by " + o, x.part(0), above);
        Due.due(30, "part(1) by " + o, x.part(1), below);
    }

    private static void odds() {
        RentedViews x = new RentedViews();
        odds(x, 5, 0, 1);
        x.view(3, 1, 0, 0);
        x.renter(1, 99, 6);
        odds(x, 3, 3, 1);
        x.renter(1, 99, 6);
        // 10, if one of two comes: 3 of 4
        odds(x, 5, 15, 2);
        odds(x, 0, 0, 1);
        odds(x, 10, 10, 1);
        // a lake of 7 that fits the third alone, who has it if the kitchen is gone: 19 of 100
        x.view(0, 9, 7, 0);
        x.renter(9, 99, 0);
        odds(x, 1, 2843, 1000);
        x.night();
        // the lake shows 1, the kitchen still 0
        odds(x, 1, 271, 100);
        Due.due(28, "odds(-1)", x.odds(-1), -2);
        Due.due(28, "odds(11)", x.odds(11), -2);
        Due.due(30, "part(0) stays", x.part(0), 271);
        x.let(0, 0);
        odds(x, 10, 10, 1);
    }

    private static void drawn() {
        RentedViews x = new RentedViews();
        Due.due(29, "nobody", x.drawn(0, 30, 100), 0);
        x.view(3, 1, 0, 0);
        x.view(3, 1, 0, 0);
        x.renter(1, 10, 6);
        x.renter(1, 10, 6);
        // by seed 0 the two of three evenings draw 0, 68; 88, 17; 98, 27
        int[][] told = {{0, 0}, {1, 1}, {17, 1}, {18, 2}, {28, 3}, {68, 3}, {69, 4}, {98, 5}, {99, 6}, {100, 6}};
        for (int[] t : told) {
            Due.due(29, "drawn(0, 3, " + t[0] + ")", x.drawn(0, 3, t[0]), t[1]);
        }
        Due.due(29, "no evening", x.drawn(0, 0, 100), 0);
        Due.due(29, "30 evenings", x.drawn(999999, 30, 100), 60);
        long before = x.digest();
        x.drawn(5, 9, 50);
        Due.due(29, "nothing is paid", x.digest(), before);
        int[][] bad = {{-1, 0, 0}, {1000000, 0, 0}, {0, -1, 0}, {0, 31, 0}, {0, 0, -1}, {0, 0, 101}};
        for (int[] b : bad) {
            Due.due(29, "drawn(" + b[0] + ", " + b[1] + ", " + b[2] + ")", x.drawn(b[0], b[1], b[2]), -2);
        }
        // by seed 999999 the three of two evenings draw 28, 58, 83; 39, 82, 53
        x.renter(1, 10, 6);
        Due.due(29, "two views for three", x.drawn(999999, 2, 100), 4);
        Due.due(29, "two, then two of them", x.drawn(999999, 2, 60), 4);
        Due.due(29, "two, then one", x.drawn(999999, 2, 59), 4);
        Due.due(29, "two, then one", x.drawn(999999, 2, 53), 2);
        // a lake that is wanted in every sixth evening
        x = new RentedViews();
        x.view(0, 1, 0, 0);
        x.renter(1, 0, 0);
        Due.due(29, "this evening", x.drawn(0, 1, 100), 1);
        Due.due(29, "0 .. 6", x.drawn(0, 7, 100), 2);
        x.night();
        Due.due(29, "1 .. 5", x.drawn(0, 5, 100), 0);
        Due.due(29, "1 .. 6", x.drawn(0, 6, 100), 1);
    }

    public static void main(String[] args) {
        left();
        readings();
        guesses();
        odds();
        drawn();
        Due.end();
    }
}
