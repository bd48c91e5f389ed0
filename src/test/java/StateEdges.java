/** Boundary cases of promises 30 to 35: the fraction, images, status, counts, the digest. */
final class StateEdges extends Edges {
    private static RentedViews refusedSix() {
        RentedViews x = full();
        x.type(200);
        x.undo();
        x.let(0, 0);
        x.let(0, 0);
        x.type(32);
        x.view(0, 1, 0, 0);
        x.renter(1, 0, 0);
        return x;
    }

    // ---- 30 part

    static void promise30_whatIs0To1() {
        bounds("part(n)", Edges::small, (x, n) -> x.part(n), 0, 21, 1, 2, BAD);
    }

    static void promise30_theFractionIsZeroByOneAtFirst() {
        bounds("part(n)", Edges::empty, (x, n) -> x.part(n), 0, 0, 1, 1, BAD);
    }

    // ---- 31 image

    static void promise31_imagesAre0And1() {
        bounds("image(n)", Edges::empty, (x, n) -> x.image(n), 0, 1, 1, 1, BAD);
        bounds("image(n)", Edges::full, (x, n) -> x.image(n), 0, 1, 1, 1, BAD);
    }

    static void promise31_anImageIsKeptInPlaceOfTheOneThere() {
        RentedViews x = full();
        long kept = x.digest();
        x.image(0);
        x.night();
        x.from(0);
        due("digest()", x.digest(), kept);
    }

    static void promise31_theOtherImageStays() {
        RentedViews x = new RentedViews();
        x.view(0, 1, 0, 0);
        x.image(0);
        x.view(0, 1, 0, 0);
        x.image(1);
        x.view(0, 1, 0, 0);
        x.image(1);
        x.from(0);
        due("count(0) of 0", x.count(0), 1);
        x.from(1);
        due("count(0) of 1", x.count(0), 3);
    }

    static void promise31_nothingElseIsChanged() {
        RentedViews x = small();
        x.image(1);
        due("digest()", x.digest(), small().digest());
        due("status(0)", x.status(0), 0);
        due("count(7)", x.count(7), 2);
    }

    static void promise31_ofAnEmptyShop() {
        RentedViews x = new RentedViews();
        x.image(0);
        x.view(0, 1, 0, 0);
        x.renter(1, 0, 0);
        x.things(0, 1);
        x.let(0, 0);
        x.reading(0, 0, 0);
        x.from(0);
        RentedViews y = new RentedViews();
        y.image(0);
        like("from an empty one", x, y);
    }

    // ---- 32 from

    static void promise32_imagesAre0And1() {
        bounds("from(n)", Edges::full, (x, n) -> x.from(n), 0, 1, 1, 1, BAD);
        outside("from(n), none kept", Edges::empty, (x, n) -> x.from(n), 0, 1, BAD);
    }

    static void promise32_noneWasKept() {
        refused("from(0)", Edges::empty, x -> x.from(0), NO, NO);
        refused("from(1)", Edges::empty, x -> x.from(1), NO, NO);
        refused("from(0), 1 is kept", Edges::small, x -> x.from(0), NO, NO);
    }

    static void promise32_allIsAsItWasKept() {
        RentedViews x = full();
        long kept = x.digest();
        x.image(0);
        x.shop();
        for (int i = 0; i < 6; i++) {
            x.view(5 - i, 1, i, 5 - i);
            x.renter(1 + i, i, i);
            x.things(i, i);
            x.reading(0, i, i);
        }
        x.night();
        x.let(5, 5);
        x.from(0);
        due("digest()", x.digest(), kept);
        like("as kept", x, imageOfFull());
    }

    private static RentedViews imageOfFull() {
        RentedViews x = full();
        x.image(0);
        return x;
    }

    static void promise32_whatMayBeUndoneTheyKeep() {
        RentedViews x = full();
        x.shop();
        x.from(1);
        due("count(7)", x.count(7), 8);
        int[] takings = {165, 158, 135, 111, 100, 90, 90, 75};
        for (int t : takings) {
            due("undo()", x.undo(), t);
        }
        due("undo()", x.undo(), NO);
        x.from(1);
        due("count(7) again", x.count(7), 8);
        due("undo() again", x.undo(), 165);
    }

    static void promise32_noneMayBeUndoneIfNoneMightThen() {
        RentedViews x = new RentedViews();
        x.image(0);
        x.night();
        x.from(0);
        due("count(7)", x.count(7), 0);
        due("undo()", x.undo(), NO);
    }

    static void promise32_itGoesOnFromOne() {
        RentedViews x = imageOfFull();
        x.from(0);
        x.night();
        x.let(0, 0);
        x.things(0, 0);
        x.forget();
        x.undo();
        x.undo();
        x.from(0);
        like("the image stayed as it was", x, imageOfFull());
    }

    static void promise32_butTheText() {
        RentedViews x = small();
        x.clear();
        Due.type(x, "shop;");
        x.from(1);
        due("count(8)", x.count(8), 5);
        due("read()", x.read(), 1);
    }

    static void promise32_butTheFraction() {
        RentedViews x = small();
        x.odds(0);
        x.from(1);
        due("part(0)", x.part(0), 0);
        due("part(1)", x.part(1), 1);
    }

    static void promise32_butStatus() {
        RentedViews x = small();
        x.type(128);
        x.from(0);
        x.from(0);
        x.from(1);
        due("status(0)", x.status(0), 1);
        due("status(1)", x.status(1), 2);
    }

    static void promise32_butTheImages() {
        RentedViews x = new RentedViews();
        x.image(0);
        x.view(0, 1, 0, 0);
        x.image(1);
        x.from(0);
        due("from(1)", x.from(1), 1);
        due("count(0)", x.count(0), 1);
    }

    static void promise32_behindARead() {
        RentedViews x = imageOfFull();
        x.read();
        x.night();
        x.read();
        x.from(0);
        like("as kept", x, imageOfFull());
    }

    // ---- 33 status

    static void promise33_whatIs0To2ElseMinus1CountsAsBad() {
        bounds("status(n)", StateEdges::refusedSix, (x, n) -> x.status(n), 0, 1, 2, 3, -1);
        asks("status(1)", StateEdges::refusedSix, x -> x.status(1), 2);
    }

    static void promise33_eachReasonOfItsOwn() {
        RentedViews x = full();
        int[] told = {0, 0, 0};
        for (int i = 0; i < 3; i++) {
            due("BAD", x.renter(0, 0, 0), BAD);
            told[0]++;
            counted(x, told);
            due("NO", x.let(0, 0), NO);
            told[1]++;
            counted(x, told);
            due("FULL", x.renter(1, 0, 0), FULL);
            told[2]++;
            counted(x, told);
        }
    }

    private static void counted(RentedViews x, int[] told) {
        for (int what = 0; what < 3; what++) {
            due("status(" + what + ")", x.status(what), told[what]);
        }
    }

    static void promise33_whereOthersAreToldTheyCountAsThese() {
        RentedViews x = new RentedViews();
        due("of(0, 0)", x.of(0, 0), APART);
        due("about(0, 0)", x.about(0, 0), APART);
        due("best(0, 0)", x.best(0, 0), APART);
        due("left(0, 0, 0)", x.left(0, 0, 0), APART);
        due("status(3)", x.status(3), -1);
        counted(x, new int[] {5, 0, 0});
    }

    static void promise33_noneIsNotRefused() {
        RentedViews x = small();
        due("of", x.of(0, 6), NONE);
        due("about", x.about(0, 3), NONE);
        due("best", x.best(99, 1), NONE);
        due("air", x.air(0), NONE);
        due("bring", x.bring(0, 5, 0), NONE);
        x.things(1, 1);
        due("left", x.left(1, 0, 1), NONE);
        x.reading(0, 0, 2);
        due("look", x.look(0), NONE);
        counted(x, new int[] {0, 0, 0});
    }

    static void promise33_manyAreCounted() {
        RentedViews x = new RentedViews();
        for (int i = 1; i <= 200; i++) {
            x.undo();
            due("status(1)", x.status(1), i);
        }
    }

    // ---- 34 count

    static void promise34_whatIs0To8() {
        bounds("count(n)", Edges::small, (x, n) -> x.count(n), 0, 2, 8, 18, BAD);
        bounds("count(n)", Edges::empty, (x, n) -> x.count(n), 0, 0, 8, 0, BAD);
    }

    private static void counts(Maker shop, int... told) {
        for (int what = 0; what <= 8; what++) {
            int which = what;
            asks("count(" + what + ")", shop, x -> x.count(which), told[what]);
        }
    }

    static void promise34_ofAnEmptyShop() {
        counts(Edges::empty, 0, 0, 0, 0, 0, 0, 0, 0, 0);
    }

    static void promise34_ofASmallShop() {
        counts(Edges::small, 2, 2, 1, 21, 0, 1, 1, 2, 18);
    }

    static void promise34_ofAFullShop() {
        counts(Edges::full, 6, 6, 1, 180, 6, 12, 6, 8, 150);
    }

    // ---- 35 digest

    private static long digestOf(int... all) {
        long h = 997;
        for (int v : all) {
            h = 31 * h + v;
        }
        return h;
    }

    static void promise35_ofAnEmptyShop() {
        asks("digest()", Edges::empty, x -> x.digest(), digestOf(0, 0, 0, 0, 0, 0, 0, 0, 0, 0, 1));
    }

    static void promise35_noneIsMinus1() {
        asks("digest()", Edges::small, x -> x.digest(), digestOf(2, 2, 1, 21, 0, 1, 1, 2, 18,
                0, 3, 21, 1, -1, 129, 4, 9, 31, 4, -1, 0, 4, 29, 6, 2, 15, 4, 0, 0, 0, 0, 0, 1, 21, 2));
    }

    /** What is above 9223372036854775807 goes around. */
    static void promise35_ofAFullShop() {
        asks("digest()", Edges::full, x -> x.digest(), digestOf(6, 6, 1, 180, 6, 12, 6, 8, 150,
                0, 9, 10, 0, 1, 255, 1, 8, 11, 1, 2, 255, 2, 7, 12, 2, 3, 255,
                3, 6, 13, 3, 4, 255, 4, 5, 14, 4, 5, 255, 5, 4, 15, 5, 0, 255,
                9, 875, 6, 9, 880, 6, 9, 867, 6, 9, 856, 6, 9, 874, 6, 9, 883, 6,
                0, 0, 0, 1, 1, 0, 2, 2, 0, 3, 3, 0, 4, 4, 0, 5, 5, 0,
                0, 1, 1, 1, 2, 1, 2, 3, 1, 3, 4, 1, 4, 5, 1, 5, 0, 1,
                0, 99, 0, 1, 99, 1, 2, 99, 2, 3, 99, 3, 4, 99, 4, 5, 99, 5,
                (int) full().part(0), (int) full().part(1)));
    }

    static void promise35_moreViewsThanRentersAndLess() {
        asks("two views", () -> shop(views(of(1, 2, 3, 4), of(2, 3, 4, 5)), renters(of(6, 7, 6))), x -> x.digest(),
                digestOf(2, 1, 0, 0, 0, 0, 0, 0, 0, 1, 2, 3, 4, -1, 0, 2, 3, 4, 5, -1, 0, 6, 7, 6, 0, 1));
        asks("two renters", () -> shop(views(of(1, 2, 3, 4)), renters(of(6, 7, 6), of(5, 4, 3))), x -> x.digest(),
                digestOf(1, 2, 0, 0, 0, 0, 0, 0, 0, 1, 2, 3, 4, -1, 0, 6, 7, 6, 5, 4, 3, 0, 1));
    }

    /** The last twelve of fourteen lettings, each in another evening. */
    static void promise35_ofHistoryTheLast12() {
        asks("digest()", () -> {
            RentedViews x = shop(views(of(0, 1, 0, 0), of(0, 1, 0, 0)), renters(of(1, 0, 6), of(1, 0, 6), of(1, 0, 6)));
            for (int i = 0; i < 14; i++) {
                x.let(i % 2, i % 3);
                x.night();
            }
            return x;
        }, x -> x.digest(), digestOf(2, 3, 14, 0, 0, 12, 0, 8, 0,
                0, 1, 0, 0, -1, 0, 0, 1, 0, 0, -1, 0, 1, 0, 6, 1, 0, 6, 1, 0, 6,
                0, 2, 2, 1, 0, 3, 0, 1, 4, 1, 2, 5, 0, 0, 6, 1, 1, 7,
                0, 2, 8, 1, 0, 9, 0, 1, 10, 1, 2, 11, 0, 0, 12, 1, 1, 13,
                0, 1));
    }

    static void promise35_nothingIsChangedByIt() {
        RentedViews x = full();
        x.digest();
        x.digest();
        like("behind it", x, full());
    }
}
