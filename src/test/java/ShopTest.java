/** Promises 1 to 8: a new object, and how a shop comes to be. */
public final class ShopTest {
    private static void newObject() {
        RentedViews x = new RentedViews();
        for (int what = 0; what <= 8; what++) {
            Due.due(1, "count(" + what + ")", x.count(what), 0);
        }
        for (int what = 0; what <= 2; what++) {
            Due.due(1, "status(" + what + ")", x.status(what), 0);
        }
        Due.due(1, "part(0)", x.part(0), 0);
        Due.due(1, "part(1)", x.part(1), 1);
        Due.due(1, "undo()", x.undo(), -3);
        Due.due(1, "from(0)", x.from(0), -3);
        Due.due(1, "from(1)", x.from(1), -3);
        Due.due(1, "of(0, 0)", x.of(0, 0), -10);
        Due.due(1, "about(0, 0)", x.about(0, 0), -10);
    }

    /** Everything that shop() may meet: all but IMAGES, THE TEXT, THE FRACTION, STATUS goes. */
    private static void shop() {
        RentedViews x = new RentedViews();
        long fresh = x.digest();
        Due.due(2, "shop() of none", x.shop(), 0);
        x.view(0, 1, 7, 0);
        x.view(1, 1, 7, 0);
        x.renter(9, 100, 6);
        x.let(0, 0);
        x.night();
        x.let(1, 0);
        x.things(1, 9);
        x.reading(0, 0, 0);
        x.image(1);
        Due.due(2, "shop()", x.shop(), 2);
        Due.due(2, "digest()", x.digest(), fresh);
        Due.due(2, "undo()", x.undo(), -3);
        x.view(0, 1, 7, 0);
        x.renter(1, 1, 1);
        Due.due(2, "of(0, 6)", x.of(0, 6), -1);
        Due.due(2, "of(0, 7)", x.of(0, 7), 0);
        Due.due(2, "from(1)", x.from(1), 1);
        Due.due(2, "count(3) from the image", x.count(3), 14);
        Due.due(2, "count(7) from the image", x.count(7), 3);
        x.odds(10);
        Due.type(x, "ab");
        Due.due(2, "shop()", x.shop(), 2);
        Due.due(2, "part(0)", x.part(0), 7);
        Due.due(2, "count(8)", x.count(8), 2);
        Due.due(2, "status(1)", x.status(1), 1);
        x.view(0, 1, 0, 0);
        x.view(0, 1, 0, 0);
        Due.due(2, "of(1, 7) anew", x.of(1, 7), 0);
    }

    private static void view() {
        RentedViews x = new RentedViews();
        int[][] bad = {{-1, 1, 0, 0}, {6, 1, 0, 0}, {0, 0, 0, 0}, {0, 10, 0, 0}, {0, 1, -1, 0},
            {0, 1, 100, 0}, {0, 1, 0, -1}, {0, 1, 0, 6}, {Integer.MIN_VALUE, 1, 0, 0}, {0, Integer.MAX_VALUE, 0, 0}};
        for (int[] b : bad) {
            Due.due(3, "view(" + b[0] + ", " + b[1] + ", " + b[2] + ", " + b[3] + ")", x.view(b[0], b[1], b[2], b[3]), -2);
        }
        Due.due(3, "count(0)", x.count(0), 0);
        Due.due(3, "status(0)", x.status(0), bad.length);
        x.night();
        Due.due(3, "count(7)", x.count(7), 1);
        Due.due(3, "view(0, 1, 0, 0)", x.view(0, 1, 0, 0), 0);
        Due.due(3, "nothing to undo", x.count(7), 0);
        Due.due(3, "view(5, 9, 99, 5)", x.view(5, 9, 99, 5), 1);
        int[] told = {5, 9, 99, 5};
        for (int what = 0; what < 4; what++) {
            Due.due(3, "of(1, " + what + ")", x.of(1, what), told[what]);
        }
        Due.due(3, "let to nobody", x.of(1, 6), -1);
        Due.due(3, "no things", x.of(1, 7), 0);
        for (int v = 2; v < 6; v++) {
            Due.due(3, "view", x.view(v, v, v, 0), v);
        }
        x.night();
        Due.due(3, "a 7th", x.view(0, 1, 0, 0), -4);
        Due.due(3, "a bad 7th", x.view(0, 0, 0, 0), -2);
        Due.due(3, "what is refused undoes nothing", x.count(7), 1);
        Due.due(3, "status(2)", x.status(2), 1);
    }

    private static void renter() {
        RentedViews x = new RentedViews();
        int[][] bad = {{0, 0, 0}, {10, 0, 0}, {1, -1, 0}, {1, 1000, 0}, {1, 0, -1}, {1, 0, 7}};
        for (int[] b : bad) {
            Due.due(4, "renter(" + b[0] + ", " + b[1] + ", " + b[2] + ")", x.renter(b[0], b[1], b[2]), -2);
        }
        x.night();
        Due.due(4, "renter(1, 0, 0)", x.renter(1, 0, 0), 0);
        Due.due(4, "nothing to undo", x.count(7), 0);
        Due.due(4, "renter(9, 999, 6)", x.renter(9, 999, 6), 1);
        int[] told = {9, 999, 6, -1};
        for (int what = 0; what < 4; what++) {
            Due.due(4, "about(1, " + what + ")", x.about(1, what), told[what]);
        }
        for (int r = 2; r < 6; r++) {
            Due.due(4, "renter", x.renter(r, r, r), r);
        }
        x.night();
        Due.due(4, "a 7th", x.renter(1, 0, 0), -4);
        Due.due(4, "a bad 7th", x.renter(1, 0, 7), -2);
        Due.due(4, "what is refused undoes nothing", x.count(7), 1);
        Due.due(4, "count(1)", x.count(1), 6);
        Due.due(4, "status(2)", x.status(2), 1);
    }

    private static void things() {
        RentedViews x = new RentedViews();
        Due.due(5, "things of no view", x.things(0, 0), -2);
        x.view(0, 1, 0, 0);
        x.view(0, 1, 0, 0);
        x.night();
        Due.due(5, "things(1, 255)", x.things(1, 255), 0);
        Due.due(5, "things(1, 6)", x.things(1, 6), 255);
        Due.due(5, "things(1, 256)", x.things(1, 256), -2);
        Due.due(5, "things(1, -1)", x.things(1, -1), -2);
        Due.due(5, "things(2, 0)", x.things(2, 0), -2);
        Due.due(5, "things(-1, 0)", x.things(-1, 0), -2);
        Due.due(5, "of(0, 7)", x.of(0, 7), 0);
        Due.due(5, "of(1, 7)", x.of(1, 7), 6);
        Due.due(5, "may still be undone", x.count(7), 1);
        x.undo();
        Due.due(5, "things are not undone", x.of(1, 7), 6);
    }

    private static void typeAndClear() {
        RentedViews x = new RentedViews();
        Due.due(6, "type(-1)", x.type(-1), -2);
        Due.due(6, "type(128)", x.type(128), -2);
        Due.due(7, "clear() of none", x.clear(), 0);
        Due.due(6, "type(0)", x.type(0), 1);
        Due.due(6, "type(127)", x.type(127), 2);
        Due.due(7, "clear()", x.clear(), 2);
        Due.due(7, "count(8)", x.count(8), 0);
        for (int i = 1; i <= 150; i++) {
            Due.due(6, "type(32)", x.type(32), i);
        }
        Due.due(6, "a byte too many", x.type(32), -4);
        Due.due(6, "a bad byte too many", x.type(128), -2);
        Due.due(6, "count(8)", x.count(8), 150);
        Due.due(6, "status(2)", x.status(2), 1);
        Due.due(8, "150 blanks", x.read(), -160);
        Due.due(7, "clear()", x.clear(), 150);
        Due.due(6, "type(32)", x.type(32), 1);
    }

    private static void readAsTold() {
        RentedViews x = new RentedViews();
        Due.due(8, "shop alone", Due.read(x, "shop;"), 1);
        Due.due(8, "blanks about", Due.read(x, "  shop  ;  "), 1);
        Due.due(8, "edges", Due.read(x, "shop;view 0 1 0 0;view 5 9 99 5;renter 1 0 0;renter 9 999 6;thing 0 0;thing 1 0;thing 1 7;thing 1 7;"), 9);
        int[][] views = {{0, 1, 0, 0, 0, 0, -1, 1}, {5, 9, 99, 5, 5, 99, -1, 129}};
        for (int v = 0; v < 2; v++) {
            for (int what = 0; what < 8; what++) {
                Due.due(8, "of(" + v + ", " + what + ")", x.of(v, what), views[v][what]);
            }
        }
        int[][] renters = {{1, 0, 0, -1}, {9, 999, 6, -1}};
        for (int r = 0; r < 2; r++) {
            for (int what = 0; what < 4; what++) {
                Due.due(8, "about(" + r + ", " + what + ")", x.about(r, what), renters[r][what]);
            }
        }
        Due.due(8, "no blanks, zeros ahead", Due.read(x, "shop;view003 009 007  05;"), 2);
        Due.due(8, "of(0, 0)", x.of(0, 0), 3);
        Due.due(8, "of(0, 5)", x.of(0, 5), 17);
        Due.due(8, "count(1)", x.count(1), 0);
        Due.due(8, "six views", Due.read(x, "shop;" + "view 0 1 0 0;".repeat(6)), 7);
        Due.due(8, "six renters", Due.read(x, "shop;" + "renter 1 0 0;".repeat(6)), 7);
        Due.due(8, "five of each", Due.read(x, "shop;" + "view 0 1 0 0;".repeat(5) + "renter 1 0 0;".repeat(5)), 11);
        Due.due(8, "the text stays", x.count(8), 135);
        Due.due(8, "read again", x.read(), 11);
    }

    private static void readTakesThePlaceOfAll() {
        RentedViews x = new RentedViews();
        x.view(0, 1, 7, 0);
        x.renter(9, 100, 6);
        x.image(0);
        x.let(0, 0);
        x.reading(0, 0, 0);
        x.things(0, 3);
        x.odds(5);
        long above = x.part(0);
        x.night();
        x.let(0, 0);
        Due.due(8, "shop;view 2 3 4 5;", Due.read(x, "shop;view 2 3 4 5;"), 2);
        int[] counts = {1, 0, 0, 0, 0, 0, 0, 0, 18};
        for (int what = 0; what < counts.length; what++) {
            Due.due(8, "count(" + what + ")", x.count(what), counts[what]);
        }
        Due.due(8, "of(0, 7)", x.of(0, 7), 0);
        Due.due(8, "part(0)", x.part(0), above);
        Due.due(8, "undo()", x.undo(), -3);
        Due.due(8, "status(1)", x.status(1), 1);
        Due.due(8, "from(0)", x.from(0), 1);
        Due.due(8, "of(0, 2)", x.of(0, 2), 7);
    }

    private static void fault(String text, int place) {
        RentedViews x = new RentedViews();
        x.view(0, 1, 7, 0);
        x.renter(9, 100, 6);
        x.let(0, 0);
        Due.type(x, text);
        long before = x.digest();
        Due.due(8, "read of '" + text + "'", x.read(), -10 - place);
        Due.due(8, "digest behind it", x.digest(), before);
        Due.due(8, "a fault is none of STATUS", x.status(0) + x.status(1) + x.status(2), 0);
    }

    private static void faults() {
        fault("", 0);
        fault("   ", 3);
        fault("view 0 1 0 0;", 0);
        fault(" 1", 1);
        fault(";", 0);
        fault("Shop;", 0);
        fault("shopshop;", 0);
        fault("chop;", 0);
        fault("shoe;", 0);
        fault("sho", 0);
        fault("shop", 4);
        fault("shop  ", 6);
        fault("shop view", 5);
        fault("shop;shop;", 5);
        fault("shop; ;", 6);
        fault("shop; 1;", 6);
        fault("shop;vie", 5);
        fault("shop;vieW", 5);
        fault("shop;view", 9);
        fault("shop;view;", 9);
        fault("shop;view 0 1 0 0", 17);
        fault("shop;view 0 1 0 0 0;", 18);
        fault("shop;view 0 1 0 0x;", 17);
        fault("shop;view 6 1 0 0;", 10);
        fault("shop;view 0 0 0 0;", 12);
        fault("shop;view 0 10 0 0;", 12);
        fault("shop;view 0 1 100 0;", 14);
        fault("shop;view 0 1 0099 0;", 14);
        fault("shop;view 0 1 0 6;", 16);
        fault("shop;view 0 1 -1 0;", 14);
        fault("shop;view 0 1\t0 0;", 13);
        fault("shop;renter 0 0 0;", 12);
        fault("shop;renter 10 0 0;", 12);
        fault("shop;renter 1 1000 0;", 14);
        fault("shop;renter 1 9999999999999 0;", 14);
        fault("shop;renter 1 0 7;", 16);
        fault("shop;renter 1 0;", 15);
        fault("shop;thing 0 0;", 11);
        fault("shop;thing 0 0;view 0 1 0 0;", 11);
        fault("shop;view 0 1 0 0;thing 1 0;", 24);
        fault("shop;view 0 1 0 0;thing 0 8;", 26);
        fault("shop;view 0 1 0 0;thing 0;", 25);
        fault("shop;" + "view 0 1 0 0;".repeat(6) + "view 0 1 0 0;", 83);
        fault("shop;" + "view 0 1 0 0;".repeat(6) + "view", 83);
        fault("shop;" + "renter 1 0 0;".repeat(6) + " renter;", 84);
    }

    public static void main(String[] args) {
        newObject();
        shop();
        view();
        renter();
        things();
        typeAndClear();
        readAsTold();
        readTakesThePlaceOfAll();
        faults();
        Due.end();
    }
}
