/** Boundary cases of promises 1 to 7: a new object, what comes into a shop, THE TEXT's bytes. */
final class ShopEdges extends Edges {
    // ---- 1 a new object

    static void promise01_noViewsNoRenters() {
        asks("count(0)", Edges::empty, x -> x.count(0), 0);
        asks("count(1)", Edges::empty, x -> x.count(1), 0);
    }

    static void promise01_eveningsHaveNumbersZeroAtFirst() {
        asks("count(2)", Edges::empty, x -> x.count(2), 0);
    }

    static void promise01_noTakingsNothingLetNoHistoryNoReadings() {
        for (int what = 3; what <= 6; what++) {
            int which = what;
            asks("count(" + what + ")", Edges::empty, x -> x.count(which), 0);
        }
    }

    static void promise01_noneMayBeUndone() {
        asks("count(7)", Edges::empty, x -> x.count(7), 0);
        refused("undo()", Edges::empty, x -> x.undo(), NO, NO);
    }

    static void promise01_theTextIsEmpty() {
        asks("count(8)", Edges::empty, x -> x.count(8), 0);
    }

    static void promise01_theFractionIsZeroByOneAtFirst() {
        asks("part(0)", Edges::empty, x -> x.part(0), 0);
        asks("part(1)", Edges::empty, x -> x.part(1), 1);
    }

    static void promise01_noImageIsKept() {
        refused("from(0)", Edges::empty, x -> x.from(0), NO, NO);
        refused("from(1)", Edges::empty, x -> x.from(1), NO, NO);
    }

    static void promise01_nothingWasRefused() {
        for (int what = 0; what < 3; what++) {
            int which = what;
            asks("status(" + what + ")", Edges::empty, x -> x.status(which), 0);
        }
    }

    static void promise01_twoObjectsShareNothing() {
        RentedViews x = new RentedViews();
        full();
        like("beside a full one", x, new RentedViews());
    }

    // ---- 2 shop

    static void promise02_howManyViewsThereWere() {
        taken("shop() of an empty one", Edges::empty, x -> x.shop(), 0);
        taken("shop() of a small one", Edges::small, x -> x.shop(), 2);
        taken("shop() of a full one", Edges::full, x -> x.shop(), 6);
        taken("shop() again", Edges::full, x -> x.shop() + x.shop(), 6);
    }

    static void promise02_allAsAtFirst() {
        RentedViews x = new RentedViews();
        for (int i = 0; i < 6; i++) {
            x.view(i, 9, 99, 5);
            x.renter(9, 999, 6);
            x.things(i, 255);
            x.reading(i, 99, 5);
            x.let(i, i);
        }
        x.night();
        x.let(0, 0);
        x.shop();
        like("a shop as at first", x, new RentedViews());
    }

    static void promise02_whatComesThenIsAsInANewOne() {
        RentedViews x = new RentedViews();
        RentedViews y = new RentedViews();
        for (int i = 0; i < 6; i++) {
            x.view(0, 1, 1, 1);
            x.renter(9, 9, 6);
            x.things(i, 255);
            x.reading(i, 1, 1);
            x.let(i, i);
        }
        x.shop();
        for (RentedViews z : new RentedViews[] {x, y}) {
            for (int i = 0; i < 6; i++) {
                due("view", z.view(5, 9, 99, 5), i);
                due("renter", z.renter(1, 0, 0), i);
                due("things", z.things(i, 0), 0);
                due("reading", z.reading(i, 0, 0), i + 1);
            }
        }
        like("full again", x, y);
    }

    static void promise02_butForImages() {
        RentedViews x = full();
        RentedViews y = full();
        x.shop();
        for (int i = 0; i < 2; i++) {
            due("from(" + i + ")", x.from(i), y.from(i));
            due("digest()", x.digest(), y.digest());
            due("undo()", x.undo(), y.undo());
        }
    }

    static void promise02_butForTheText() {
        RentedViews x = full();
        x.shop();
        due("count(8)", x.count(8), 150);
        due("read()", x.read(), 13);
    }

    static void promise02_butForTheFraction() {
        RentedViews x = small();
        x.shop();
        due("part(0)", x.part(0), 21);
        due("part(1)", x.part(1), 2);
    }

    static void promise02_butForStatus() {
        RentedViews x = full();
        x.view(0, 0, 0, 0);
        x.let(0, 0);
        x.let(0, 0);
        x.view(0, 1, 0, 0);
        x.renter(1, 0, 0);
        x.reading(0, 0, 0);
        x.shop();
        for (int what = 0; what < 3; what++) {
            due("status(" + what + ")", x.status(what), what + 1);
        }
    }

    static void promise02_nothingToUndoBehindIt() {
        RentedViews x = full();
        x.shop();
        due("count(7)", x.count(7), 0);
        due("undo()", x.undo(), NO);
    }

    // ---- 3 view

    static void promise03_aKindIs0To5() {
        bounds("view(n, 1, 0, 0)", Edges::small, (x, n) -> x.view(n, 1, 0, 0), 0, 2, 5, 2, BAD);
    }

    static void promise03_aSizeIs1To9() {
        bounds("view(0, n, 0, 0)", Edges::small, (x, n) -> x.view(0, n, 0, 0), 1, 2, 9, 2, BAD);
    }

    static void promise03_aPriceIs0To99() {
        bounds("view(0, 1, n, 0)", Edges::small, (x, n) -> x.view(0, 1, n, 0), 0, 2, 99, 2, BAD);
    }

    static void promise03_aWeatherIs0To5() {
        bounds("view(0, 1, 0, n)", Edges::small, (x, n) -> x.view(0, 1, 0, n), 0, 2, 5, 2, BAD);
    }

    static void promise03_theLeastAndTheMostAreKept() {
        RentedViews x = new RentedViews();
        x.view(0, 1, 0, 0);
        x.view(5, 9, 99, 5);
        int[][] told = {{0, 1, 0, 0}, {5, 9, 99, 5}};
        for (int v = 0; v < 2; v++) {
            for (int what = 0; what < 4; what++) {
                due("of(" + v + ", " + what + ")", x.of(v, what), told[v][what]);
            }
        }
    }

    static void promise03_viewsAre0To5AsTheyComeThenFull() {
        RentedViews x = new RentedViews();
        for (int v = 0; v < 6; v++) {
            due("view", x.view(0, 1, 0, 0), v);
            due("count(0)", x.count(0), v + 1);
        }
        due("a 7th", x.view(0, 1, 0, 0), FULL);
        due("count(0)", x.count(0), 6);
    }

    static void promise03_fullChangesNothingButStatus() {
        refused("a 7th view", Edges::full, x -> x.view(5, 9, 99, 5), FULL, FULL);
    }

    static void promise03_badComesAheadOfFull() {
        refused("a 7th of no kind", Edges::full, x -> x.view(6, 1, 0, 0), BAD, BAD);
        refused("a 7th of no size", Edges::full, x -> x.view(0, 10, 0, 0), BAD, BAD);
        refused("a 7th of no price", Edges::full, x -> x.view(0, 1, 100, 0), BAD, BAD);
        refused("a 7th of no weather", Edges::full, x -> x.view(0, 1, 0, 6), BAD, BAD);
    }

    static void promise03_aNewViewIsFreeWithoutThings() {
        RentedViews x = small();
        x.view(0, 1, 0, 0);
        due("of(2, 6)", x.of(2, 6), NONE);
        due("of(2, 7)", x.of(2, 7), 0);
    }

    static void promise03_whatIsLetStaysSoAsAViewComes() {
        RentedViews x = small();
        x.let(0, 0);
        x.view(0, 1, 0, 0);
        due("of(0, 6)", x.of(0, 6), 0);
        due("count(4)", x.count(4), 1);
        due("count(5)", x.count(5), 2);
    }

    // ---- 4 renter

    static void promise04_aWallIs1To9() {
        bounds("renter(n, 0, 0)", Edges::small, (x, n) -> x.renter(n, 0, 0), 1, 2, 9, 2, BAD);
    }

    static void promise04_aPurseIs0To999() {
        bounds("renter(1, n, 0)", Edges::small, (x, n) -> x.renter(1, n, 0), 0, 2, 999, 2, BAD);
    }

    static void promise04_aWantIsAWeatherOr6() {
        bounds("renter(1, 0, n)", Edges::small, (x, n) -> x.renter(1, 0, n), 0, 2, 6, 2, BAD);
    }

    static void promise04_theLeastAndTheMostAreKept() {
        RentedViews x = new RentedViews();
        x.renter(1, 0, 0);
        x.renter(9, 999, 6);
        int[][] told = {{1, 0, 0, NONE}, {9, 999, 6, NONE}};
        for (int r = 0; r < 2; r++) {
            for (int what = 0; what < 4; what++) {
                due("about(" + r + ", " + what + ")", x.about(r, what), told[r][what]);
            }
        }
    }

    static void promise04_rentersAre0To5AsTheyComeThenFull() {
        RentedViews x = new RentedViews();
        for (int r = 0; r < 6; r++) {
            due("renter", x.renter(1, 0, 0), r);
            due("count(1)", x.count(1), r + 1);
        }
        due("a 7th", x.renter(1, 0, 0), FULL);
        due("count(1)", x.count(1), 6);
    }

    static void promise04_fullChangesNothingButStatus() {
        refused("a 7th renter", Edges::full, x -> x.renter(9, 999, 6), FULL, FULL);
    }

    static void promise04_badComesAheadOfFull() {
        refused("a 7th with no wall", Edges::full, x -> x.renter(0, 0, 0), BAD, BAD);
        refused("a 7th with no purse", Edges::full, x -> x.renter(1, 1000, 0), BAD, BAD);
        refused("a 7th with no want", Edges::full, x -> x.renter(1, 0, 7), BAD, BAD);
    }

    static void promise04_aNewRenterHasNoViewThoughAllAreLet() {
        RentedViews x = new RentedViews();
        x.view(0, 1, 0, 0);
        x.renter(1, 0, 0);
        x.let(0, 0);
        x.renter(1, 0, 0);
        due("about(0, 3)", x.about(0, 3), 0);
        due("about(1, 3)", x.about(1, 3), NONE);
    }

    // ---- 5 things

    static void promise05_aViewMustBeThere() {
        bounds("things(n, 7)", Edges::small, (x, n) -> x.things(n, 7), 0, 129, 1, 0, BAD);
        bounds("things(n, 7) of a full shop", Edges::full, (x, n) -> x.things(n, 7), 0, 255, 5, 255, BAD);
        refused("things(0, 0) of an empty shop", Edges::empty, x -> x.things(0, 0), BAD, BAD);
    }

    static void promise05_thingsAre0To7AsBits() {
        bounds("things(0, n)", Edges::small, (x, n) -> x.things(0, n), 0, 129, 255, 129, BAD);
    }

    static void promise05_noneAtFirst() {
        RentedViews x = new RentedViews();
        x.view(0, 1, 0, 0);
        due("things(0, 255)", x.things(0, 255), 0);
        due("things(0, 0)", x.things(0, 0), 255);
        due("things(0, 1)", x.things(0, 1), 0);
    }

    static void promise05_ofOneViewAlone() {
        RentedViews x = full();
        x.things(0, 0);
        x.things(5, 128);
        int[] told = {0, 255, 255, 255, 255, 128};
        for (int v = 0; v < 6; v++) {
            due("of(" + v + ", 7)", x.of(v, 7), told[v]);
        }
    }

    static void promise05_theyAreNeitherUndoneNorEndWhatMayBe() {
        RentedViews x = small();
        x.things(1, 255);
        due("count(7)", x.count(7), 2);
        x.undo();
        x.undo();
        due("of(1, 7)", x.of(1, 7), 255);
        due("of(0, 7)", x.of(0, 7), 129);
    }

    // ---- 6 type

    static void promise06_aByteIs0To127() {
        bounds("type(n)", Edges::small, (x, n) -> x.type(n), 0, 19, 127, 19, BAD);
    }

    static void promise06_theTextHas150BytesAtMost() {
        RentedViews x = new RentedViews();
        for (int i = 1; i <= 150; i++) {
            due("type(32)", x.type(32), i);
        }
        due("a 151st", x.type(32), FULL);
        due("count(8)", x.count(8), 150);
        due("status(2)", x.status(2), 1);
    }

    static void promise06_fullChangesNothingButStatus() {
        refused("a 151st byte", Edges::full, x -> x.type('x'), FULL, FULL);
    }

    static void promise06_badComesAheadOfFull() {
        refused("type(-1)", Edges::full, x -> x.type(-1), BAD, BAD);
        refused("type(128)", Edges::full, x -> x.type(128), BAD, BAD);
    }

    static void promise06_aByteComesBehindTheText() {
        RentedViews x = small();
        Due.type(x, "renter 1 0 0;");
        due("read()", x.read(), 3);
    }

    // ---- 7 clear

    static void promise07_howManyItHad() {
        taken("clear() of none", Edges::empty, x -> x.clear(), 0);
        taken("clear() of some", Edges::small, x -> x.clear(), 18);
        taken("clear() of all", Edges::full, x -> x.clear(), 150);
        taken("clear() again", Edges::full, x -> 1000 * x.clear() + x.clear(), 150000);
    }

    static void promise07_theTextIsEmptyThen() {
        RentedViews x = full();
        x.clear();
        due("count(8)", x.count(8), 0);
        due("read()", x.read(), -10);
        due("type(115)", x.type(115), 1);
        due("read()", x.read(), -10);
    }

    static void promise07_150BytesComeAgain() {
        RentedViews x = full();
        x.clear();
        for (int i = 1; i <= 150; i++) {
            due("type(32)", x.type(32), i);
        }
        due("a 151st", x.type(32), FULL);
    }

    static void promise07_nothingElseIsChanged() {
        RentedViews x = small();
        x.clear();
        Due.type(x, "shop;view 1 2 3 4;");
        like("typed again", x, small());
    }
}
