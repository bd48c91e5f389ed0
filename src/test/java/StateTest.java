/** Promises 30 to 35: the fraction, images, status, counts, the digest. */
public final class StateTest {
    private static RentedViews smallShop() {
        RentedViews x = new RentedViews();
        x.view(0, 1, 7, 0);
        x.view(5, 1, 3, 2);
        x.renter(9, 500, 6);
        x.renter(9, 500, 6);
        return x;
    }

    private static void part() {
        RentedViews x = smallShop();
        Due.due(30, "part(0)", x.part(0), 0);
        Due.due(30, "part(1)", x.part(1), 1);
        Due.due(30, "part(2)", x.part(2), -2);
        Due.due(30, "part(-1)", x.part(-1), -2);
        Due.due(30, "status(0)", x.status(0), 2);
        x.odds(5);
        // none 1/4, one 7: 2/4, both 10: 1/4
        Due.due(30, "part(0)", x.part(0), 6);
        Due.due(30, "part(1)", x.part(1), 1);
        x.odds(1);
        // 18 of 100 times 7, 1 of 100 times 10
        Due.due(30, "part(0)", x.part(0), 34);
        Due.due(30, "part(1)", x.part(1), 25);
    }

    private static void images() {
        RentedViews x = smallShop();
        int[] bad = {-1, 2, Integer.MIN_VALUE};
        for (int i : bad) {
            Due.due(31, "image(" + i + ")", x.image(i), -2);
            Due.due(32, "from(" + i + ")", x.from(i), -2);
        }
        Due.due(32, "none was kept", x.from(0), -3);
        x.let(0, 0);
        x.things(1, 3);
        x.reading(0, 5, 5);
        long first = x.digest();
        Due.due(31, "image(0)", x.image(0), 1);
        Due.due(32, "none was kept as 1", x.from(1), -3);
        x.night();
        x.let(0, 0);
        x.let(1, 1);
        x.things(1, 4);
        x.forget();
        x.view(2, 2, 2, 2);
        x.renter(2, 2, 2);
        long second = x.digest();
        Due.due(31, "image(1)", x.image(1), 1);
        x.shop();
        Due.due(32, "from(0)", x.from(0), 1);
        Due.due(32, "all as kept", x.digest(), first);
        Due.due(32, "what may be undone, too", x.undo(), 0);
        Due.due(32, "about(0, 1)", x.about(0, 1), 500);
        Due.due(32, "undo()", x.undo(), -3);
        Due.due(32, "from(1)", x.from(1), 1);
        Due.due(32, "all as kept", x.digest(), second);
        x.night();
        Due.due(32, "from(1) again", x.from(1), 1);
        Due.due(32, "the image stayed as it was", x.digest(), second);
        Due.due(31, "image(0) anew", x.image(0), 1);
        x.shop();
        Due.due(32, "from(0)", x.from(0), 1);
        Due.due(32, "the newer one", x.digest(), second);
        Due.due(33, "status(0)", x.status(0), 6);
        Due.due(33, "status(1)", x.status(1), 3);
    }

    /** Each number of a VIEW, RENTER, LETTING, READING is kept, and comes back over another. */
    private static void imageOfAll() {
        RentedViews x = new RentedViews();
        for (int i = 0; i < 6; i++) {
            x.view(i, 9 - i, 10 + i, 5 - i);
            x.renter(4 + i / 2, 900 + i, i);
            x.things(i, 40 + i);
            x.reading(i, 90 + i, i);
        }
        x.let(4, 5);
        x.night();
        x.let(5, 2);
        long kept = x.digest();
        x.image(0);
        x.shop();
        for (int i = 0; i < 6; i++) {
            x.view(5 - i, 1 + i, 70 - i, i);
            x.renter(9 - i, 800 + i, 6 - i);
            x.reading(0, i, 0);
        }
        x.let(0, 0);
        x.from(0);
        Due.due(32, "digest()", x.digest(), kept);
    }

    /** Steps back are kept by an image as they were, though they are written over later. */
    private static void imageOfManySteps() {
        RentedViews x = smallShop();
        for (int e = 0; e < 10; e++) {
            x.let(e % 2, 0);
            x.night();
        }
        x.image(0);
        long kept = x.digest();
        for (int i = 0; i < 6; i++) {
            x.undo();
        }
        for (int e = 0; e < 9; e++) {
            x.let(0, 1);
            x.night();
        }
        x.from(0);
        Due.due(32, "digest()", x.digest(), kept);
        int[] takings = {50, 47, 47, 40, 40, 37, 37, 30};
        for (int i = 0; i < 8; i++) {
            Due.due(32, "undo() " + i, x.undo(), takings[i]);
        }
        Due.due(32, "undo()", x.undo(), -3);
    }

    private static void imagesKeepNoMore() {
        RentedViews x = smallShop();
        Due.type(x, "abc");
        x.image(0);
        x.odds(10);
        Due.type(x, "d");
        x.view(9, 9, 9, 9);
        x.from(0);
        Due.due(32, "count(8)", x.count(8), 4);
        Due.due(32, "part(0)", x.part(0), 10);
        Due.due(32, "status(0)", x.status(0), 1);
    }

    private static void status() {
        RentedViews x = new RentedViews();
        Due.due(33, "status(3)", x.status(3), -1);
        Due.due(33, "status(-1)", x.status(-1), -1);
        Due.due(33, "they count as BAD", x.status(0), 2);
        x.of(0, 0);
        x.about(0, 0);
        x.best(100, -1);
        x.left(0, 0, 0);
        Due.due(33, "those of -10, too", x.status(0), 6);
        x.undo();
        x.from(0);
        Due.due(33, "status(1)", x.status(1), 2);
        x.read();
        Due.due(33, "a FAULT is none", x.status(0), 6);
        x.view(0, 1, 0, 0);
        x.renter(1, 0, 0);
        x.renter(1, 0, 0);
        x.air(0);
        x.bring(0, 5, 0);
        x.things(0, 1);
        x.left(0, 0, 1);
        x.about(0, 3);
        x.best(1, 0);
        Due.due(33, "NONE is none", x.status(0), 6);
        for (int i = 0; i < 7; i++) {
            x.view(0, 1, 0, 0);
        }
        Due.due(33, "status(2)", x.status(2), 2);
        x.shop();
        Due.due(33, "status(2) stays", x.status(2), 2);
    }

    private static void count() {
        RentedViews x = smallShop();
        x.renter(1, 1, 1);
        x.let(0, 1);
        x.night();
        x.night();
        x.let(1, 2);
        x.let(1, 0);
        x.let(0, 1);
        x.reading(0, 0, 0);
        Due.type(x, "abcd");
        int[] told = {2, 3, 2, 17, 2, 3, 1, 5, 4};
        for (int what = 0; what < 9; what++) {
            Due.due(34, "count(" + what + ")", x.count(what), told[what]);
        }
        Due.due(34, "count(9)", x.count(9), -2);
        Due.due(34, "count(-1)", x.count(-1), -2);
        Due.due(34, "status(0)", x.status(0), 2);
    }

    private static long digestOf(long... all) {
        long h = 997;
        for (long v : all) {
            h = 31 * h + v;
        }
        return h;
    }

    private static void digest() {
        RentedViews x = new RentedViews();
        Due.due(35, "of a new one", x.digest(), digestOf(0, 0, 0, 0, 0, 0, 0, 0, 0, 0, 1));
        x = smallShop();
        x.let(1, 0);
        x.night();
        x.let(0, 1);
        x.things(1, 200);
        x.reading(1, 33, 4);
        x.reading(0, 99, 5);
        x.odds(1);
        Due.type(x, "xyz");
        long due = digestOf(2, 2, 1, 10, 1, 2, 2, 3, 3,
                0, 1, 7, 0, 1, 0,
                5, 1, 3, 2, -1, 200,
                9, 497, 6, 9, 493, 6,
                1, 0, 0, 0, 1, 1,
                1, 33, 4, 0, 99, 5,
                34, 25);
        Due.due(35, "digest()", x.digest(), due);
        Due.due(35, "digest() again", x.digest(), due);
        x.view(7, 7, 7, 7);
        x.status(0);
        x.image(0);
        Due.due(35, "STATUS, IMAGES are not in it", x.digest(), due);
        x.undo();
        Due.due(35, "changed", x.digest() == due ? 1 : 0, 0);
    }

    public static void main(String[] args) {
        part();
        images();
        imageOfAll();
        imageOfManySteps();
        imagesKeepNoMore();
        status();
        count();
        digest();
        Due.end();
    }
}
