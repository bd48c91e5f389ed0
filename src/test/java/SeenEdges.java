/** Boundary cases of promises 23 to 29: things left, readings, what a view is, odds, draws. */
final class SeenEdges extends Edges {
    private static final int LAKE = 0, FIRE = 2, KITCHEN = 3, FOGGED = 5;

    private static RentedViews withReadings(int[]... all) {
        RentedViews x = shop(views(of(LAKE, 1, 0, 0), of(LAKE, 1, 0, 0)), renters());
        for (int[] r : all) {
            x.reading(r[0], r[1], r[2]);
        }
        return x;
    }

    /** A view for nothing, which suits all of some renters. */
    private static RentedViews oneView(int price, int someRenters) {
        RentedViews x = shop(views(of(LAKE, 1, price, 0)), renters());
        for (int r = 0; r < someRenters; r++) {
            x.renter(1, 999, 6);
        }
        return x;
    }

    private static RentedViews sixFires() {
        RentedViews x = new RentedViews();
        for (int i = 0; i < 6; i++) {
            x.view(FIRE, 1, 99, 0);
            x.renter(1, 999, 6);
        }
        return x;
    }

    // ---- 23 left

    static void promise23_aViewMustBeThere() {
        bounds("left(n, 0, 0)", Edges::full, (x, n) -> x.left(n, 0, 0), 0, 3, 5, 33, APART);
        outside("left(n, 0, 0) of two", Edges::small, (x, n) -> x.left(n, 0, 0), 0, 1, APART);
        refused("left(0, 0, 0) of an empty shop", Edges::empty, x -> x.left(0, 0, 0), APART, BAD);
    }

    static void promise23_aThingIs0To7() {
        bounds("left(0, n, 0)", Edges::full, (x, n) -> x.left(0, n, 0), 0, 3, 7, 3, APART);
        // a shift by 32 would be one by 0
        refused("left(0, 32, 0)", Edges::full, x -> x.left(0, 32, 0), APART, BAD);
        refused("left(0, -32, 0)", Edges::full, x -> x.left(0, -32, 0), APART, BAD);
    }

    static void promise23_whatIs0To1() {
        bounds("left(0, 0, n)", Edges::full, (x, n) -> x.left(0, 0, n), 0, 3, 1, 0, APART);
    }

    static void promise23_thingNIsNotInViewV() {
        for (int there = 0; there < 8; there++) {
            for (int n = 0; n < 8; n++) {
                int bit = there;
                int asked = n;
                Maker shop = () -> {
                    RentedViews x = small();
                    x.things(0, 1 << bit);
                    x.things(1, 255);
                    return x;
                };
                if (n == there) {
                    asks("left(0, " + n + ", 0)", shop, x -> x.left(0, asked, 0), 1);
                } else {
                    refused("left(0, " + n + ", 0)", shop, x -> x.left(0, asked, 0), APART, BAD);
                }
            }
        }
    }

    static void promise23_nobodyOfHistoryHadIt() {
        Maker shop = () -> {
            RentedViews x = small();
            x.things(1, 1);
            return x;
        };
        asks("who", shop, x -> x.left(1, 0, 0), 0);
        asks("first", shop, x -> x.left(1, 0, 1), NONE);
    }

    static void promise23_allSixRentersOfHistory() {
        RentedViews x = oneView(0, 6);
        x.things(0, 128);
        for (int r = 0; r < 6; r++) {
            x.night();
            x.let(0, r);
        }
        due("who", x.left(0, 7, 0), 63);
        due("first", x.left(0, 7, 1), 1);
    }

    static void promise23_ofTheLast12Lettings() {
        RentedViews x = oneView(0, 2);
        x.things(0, 1);
        x.let(0, 1);
        for (int i = 0; i < 11; i++) {
            x.night();
            x.let(0, 0);
        }
        due("who of 12", x.left(0, 0, 0), 3);
        due("first of 12", x.left(0, 0, 1), 0);
        x.night();
        x.let(0, 0);
        due("who of 13", x.left(0, 0, 0), 1);
        due("first of 13", x.left(0, 0, 1), 1);
    }

    static void promise23_thisEveningToo() {
        RentedViews x = oneView(0, 1);
        x.things(0, 1);
        x.let(0, 0);
        due("who", x.left(0, 0, 0), 1);
        due("first", x.left(0, 0, 1), 0);
        x.undo();
        due("who, undone", x.left(0, 0, 0), 0);
        due("first, undone", x.left(0, 0, 1), NONE);
    }

    // ---- 24 reading

    static void promise24_aViewMustBeThere() {
        bounds("reading(n, 0, 0)", Edges::small, (x, n) -> x.reading(n, 0, 0), 0, 2, 1, 2, BAD);
        refused("reading(0, 0, 0) of an empty shop", Edges::empty, x -> x.reading(0, 0, 0), BAD, BAD);
    }

    static void promise24_anEveningIs0To99() {
        bounds("reading(0, n, 0)", Edges::small, (x, n) -> x.reading(0, n, 0), 0, 2, 99, 2, BAD);
    }

    static void promise24_aWeatherIs0To5() {
        bounds("reading(0, 0, n)", Edges::small, (x, n) -> x.reading(0, 0, n), 0, 2, 5, 2, BAD);
    }

    static void promise24_readingsAre0To5ThenFull() {
        RentedViews x = withReadings();
        for (int i = 1; i <= 6; i++) {
            due("reading(0, 7, 3)", x.reading(0, 7, 3), i);
        }
        due("a 7th", x.reading(0, 7, 3), FULL);
        due("a 7th of another view", x.reading(1, 7, 3), FULL);
        due("count(6)", x.count(6), 6);
        due("status(2)", x.status(2), 2);
    }

    static void promise24_fullChangesNothingButStatus() {
        refused("a 7th", Edges::full, x -> x.reading(0, 0, 0), FULL, FULL);
    }

    static void promise24_badComesAheadOfFull() {
        refused("no view", Edges::full, x -> x.reading(6, 0, 0), BAD, BAD);
        refused("no evening", Edges::full, x -> x.reading(0, 100, 0), BAD, BAD);
        refused("no weather", Edges::full, x -> x.reading(0, 0, 6), BAD, BAD);
    }

    static void promise24_aReadingThatCanNotBeIsTakenToo() {
        taken("another weather", () -> withReadings(of(0, 0, 0)), x -> x.reading(0, 0, 1), 2);
    }

    // ---- 25 forget

    static void promise25_howManyThereWere() {
        taken("of none", Edges::empty, x -> x.forget(), 0);
        taken("of one", Edges::small, x -> x.forget(), 1);
        taken("of all", Edges::full, x -> x.forget(), 6);
        taken("again", Edges::full, x -> 10 * x.forget() + x.forget(), 60);
    }

    static void promise25_noReadings() {
        RentedViews x = full();
        x.forget();
        due("count(6)", x.count(6), 0);
        due("is(0, 1)", x.is(0, 1), 36);
        for (int i = 1; i <= 6; i++) {
            due("six come again", x.reading(5, 0, 0), i);
        }
        due("a 7th", x.reading(5, 0, 0), FULL);
    }

    static void promise25_nothingElseIsChanged() {
        RentedViews x = small();
        x.forget();
        x.reading(0, 0, 1);
        like("read again", x, small());
    }

    // ---- 26 is

    static void promise26_aViewMustBeThere() {
        bounds("is(n, 0)", Edges::small, (x, n) -> x.is(n, 0), 0, 59, 1, 63, BAD);
        bounds("is(n, 1) of a full shop", Edges::full, (x, n) -> x.is(n, 1), 0, 6, 5, 11, BAD);
        refused("is(0, 0) of an empty shop", Edges::empty, x -> x.is(0, 0), BAD, BAD);
    }

    static void promise26_whatIs0To1() {
        bounds("is(0, n)", Edges::small, (x, n) -> x.is(0, n), 0, 59, 1, 5, BAD);
    }

    private static void is(int kinds, int pairs, int[]... readings) {
        asks("is(0, 0)", () -> withReadings(readings), x -> x.is(0, 0), kinds);
        asks("is(0, 1)", () -> withReadings(readings), x -> x.is(0, 1), pairs);
    }

    static void promise26_anyIfThereAreNoReadingsOfIt() {
        is(63, 36);
        is(63, 36, of(1, 0, 0), of(1, 0, 1));
    }

    static void promise26_noneIfNoPairIsSo() {
        is(0, 0, of(0, 0, 0), of(0, 0, 1));
        is(0, 0, of(0, 4, 1), of(0, 6, 2), of(0, 7, 5));
    }

    static void promise26_fogged5InEveningsOfAnOddNumber() {
        // all six of FOGGED; one of each other
        is(63, 11, of(0, 1, 5));
        is(63, 11, of(0, 99, 5));
        is(31, 6, of(0, 99, 0));
        is(31, 5, of(0, 99, 4));
        is(63, 6, of(0, 98, 5));
    }

    static void promise26_fire0InPlaceOf1() {
        is(63, 7, of(0, 0, 0));
        is(59, 5, of(0, 0, 1));
        is(63, 6, of(0, 0, 2));
    }

    static void promise26_allReadingsOfIt() {
        // six evenings on, all show the same again
        is(63, 7, of(0, 0, 0), of(0, 6, 0), of(0, 96, 0));
        // LAKE, BRICKS from 0 alone
        is(17, 2, of(0, 0, 0), of(0, 1, 1), of(0, 2, 2), of(0, 3, 3), of(0, 4, 4), of(0, 99, 3));
        is(0, 0, of(0, 0, 0), of(0, 1, 1), of(0, 2, 2), of(0, 3, 3), of(0, 4, 4), of(0, 99, 4));
    }

    // ---- 27 look

    static void promise27_aViewMustBeThere() {
        bounds("look(n)", Edges::small, (x, n) -> x.look(n), 0, 1, 1, 2, BAD);
        bounds("look(n) of a full shop", Edges::full, (x, n) -> x.look(n), 0, 4, 5, 2, BAD);
        refused("look(0) of an empty shop", Edges::empty, x -> x.look(0), BAD, BAD);
    }

    static void promise27_noneIfNoPair() {
        asks("look(0)", () -> withReadings(of(0, 0, 0), of(0, 0, 1)), x -> x.look(0), NONE);
        asks("look(1)", () -> withReadings(of(0, 0, 0), of(0, 0, 1)), x -> x.look(1), 0);
    }

    static void promise27_thisOneToo() {
        asks("look(0)", () -> withReadings(), x -> x.look(0), 0);
        asks("one pair", () -> withReadings(of(0, 0, 0), of(0, 1, 5), of(0, 2, 0)), x -> x.look(0), 0);
    }

    /** In evening e and behind: of LAKE 3, FIRE 3, BRICKS 3 the FIRE shows another in 4, 10, 16 alone. */
    static void promise27_fewestAmongTheNextOfLikeOnesTheFirst() {
        RentedViews x = withReadings(of(0, 0, 3), of(0, 1, 4));
        due("is(0, 0)", x.is(0, 0), 21);
        int[] told = {4, 4, 4, 4, 4, 10, 10, 10, 10, 10, 10, 16};
        for (int e = 0; e < told.length; e++) {
            due("look(0) in evening " + e, x.look(0), told[e]);
            x.night();
        }
    }

    static void promise27_inEveningsPast99() {
        RentedViews x = withReadings(of(0, 0, 3), of(0, 1, 4));
        for (int e = 0; e < 101; e++) {
            x.night();
        }
        due("look(0) in evening 101", x.look(0), 106);
        due("look(1) in evening 101", x.look(1), 102);
    }

    // ---- 28 odds

    private static void mean(Maker shop, int o, long above, long below) {
        RentedViews x = shop.make();
        due("odds(" + o + ")", x.odds(o), 1);
        due("part(0)", x.part(0), above);
        due("part(1)", x.part(1), below);
    }

    static void promise28_oIs0To10() {
        bounds("odds(n)", Edges::small, (x, n) -> x.odds(n), 0, 1, 10, 1, BAD);
    }

    static void promise28_refusedTheFractionStays() {
        RentedViews x = small();
        x.odds(11);
        x.odds(-1);
        due("part(0)", x.part(0), 21);
        due("part(1)", x.part(1), 2);
    }

    static void promise28_nobodyComes() {
        mean(Edges::empty, 10, 0, 1);
        mean(() -> oneView(7, 0), 10, 0, 1);
        mean(() -> oneView(7, 6), 0, 0, 1);
        mean(() -> shop(views(), renters(of(1, 99, 6))), 5, 0, 1);
        mean(() -> oneView(0, 6), 5, 0, 1);
    }

    static void promise28_allCome() {
        mean(() -> oneView(7, 1), 10, 7, 1);
        mean(() -> oneView(7, 6), 10, 7, 1);
        mean(SeenEdges::sixFires, 10, 1188, 1);
    }

    static void promise28_lowestTermsBelowAbove0() {
        mean(() -> oneView(1, 1), 1, 1, 10);
        mean(() -> oneView(1, 1), 5, 1, 2);
        mean(() -> oneView(10, 1), 1, 1, 1);
        // one of six comes: 1 less 9 of 10, six times
        mean(() -> oneView(1, 6), 1, 468559, 1000000);
        mean(() -> oneView(1, 6), 9, 999999, 1000000);
        mean(() -> oneView(10, 6), 1, 468559, 100000);
        mean(SeenEdges::sixFires, 1, 594, 5);
    }

    static void promise28_eachRenterApartAsTheyCome() {
        // none, 9 by either of both, 13 by both
        mean(() -> shop(views(of(LAKE, 1, 9, 0), of(LAKE, 1, 4, 0)), renters(of(1, 9, 6), of(1, 9, 6))), 5, 31, 4);
        // 9 by the one, 4 by the other
        mean(() -> shop(views(of(LAKE, 1, 9, 0), of(LAKE, 9, 4, 0)), renters(of(1, 9, 6), of(9, 4, 6))), 5, 13, 2);
    }

    static void promise28_thisEveningPursesAsNow() {
        RentedViews x = shop(views(of(LAKE, 1, 6, 5)), renters(of(1, 11, 0)));
        mean(() -> x, 5, 0, 1);
        x.night();
        mean(() -> x, 5, 3, 1);
        x.let(0, 0);
        mean(() -> x, 5, 0, 1);
        x.undo();
        mean(() -> x, 5, 3, 1);
    }

    static void promise28_nothingButTheFractionIsChanged() {
        RentedViews x = full();
        x.odds(10);
        x.odds(5);
        like("odds again", x, full());
    }

    // ---- 29 drawn

    static void promise29_aSeedIs0To999999() {
        bounds("drawn(n, 1, 100)", Edges::small, (x, n) -> x.drawn(n, 1, 100), 0, 1, 999999, 1, BAD);
    }

    static void promise29_nIs0To30() {
        bounds("drawn(0, n, 100)", Edges::small, (x, n) -> x.drawn(0, n, 100), 0, 0, 30, 35, BAD);
    }

    static void promise29_wIs0To100() {
        bounds("drawn(0, 30, n)", Edges::small, (x, n) -> x.drawn(0, 30, n), 0, 0, 100, 35, BAD);
    }

    static void promise29_nobodyOrNothingIsThere() {
        asks("an empty shop", Edges::empty, x -> x.drawn(999999, 30, 100), 0);
        asks("without renters", () -> oneView(0, 0), x -> x.drawn(999999, 30, 100), 0);
        asks("without views", () -> shop(views(), renters(of(1, 0, 6))), x -> x.drawn(999999, 30, 100), 0);
    }

    static void promise29_theMostThereCanBe() {
        asks("six in 30 evenings", SeenEdges::sixFires, x -> x.drawn(999999, 30, 100), 180);
        asks("six in 30 evenings, w 0", SeenEdges::sixFires, x -> x.drawn(999999, 30, 0), 0);
    }

    /** The first of a seed, which is drawn: it comes if that is less than w. */
    static void promise29_lessThanWOneComes() {
        int[][] seeds = {{0, 0}, {1, 38}, {5, 55}, {37975, 99}, {42627, 13}, {47902, 30}, {388515, 0},
            {518020, 67}, {999998, 90}, {999999, 28}};
        for (int[] s : seeds) {
            asks("as much", () -> oneView(0, 1), x -> x.drawn(s[0], 1, s[1]), 0);
            asks("1 more", () -> oneView(0, 1), x -> x.drawn(s[0], 1, s[1] + 1), 1);
        }
    }

    /** By seed 1: 38, 58, 13, 15, 51, 27, 10. */
    static void promise29_xGoesOnInEachEvening() {
        int[] drawn = {38, 58, 13, 15, 51, 27, 10};
        for (int w : new int[] {0, 10, 11, 13, 14, 15, 16, 27, 28, 38, 39, 51, 52, 58, 59, 100}) {
            int come = 0;
            for (int n = 1; n <= drawn.length; n++) {
                int evenings = n;
                come += drawn[n - 1] < w ? 1 : 0;
                asks("drawn(1, " + n + ", " + w + ")", () -> oneView(0, 1), x -> x.drawn(1, evenings, w), come);
            }
        }
    }

    /** By seed 1: 38 and 58 for the two of an evening, of whom the first is never suited. */
    static void promise29_forEachRenterInOrder() {
        Maker second = () -> shop(views(of(LAKE, 2, 0, 0)), renters(of(1, 0, 6), of(2, 0, 6)));
        asks("58", second, x -> x.drawn(1, 1, 58), 0);
        asks("59", second, x -> x.drawn(1, 1, 59), 1);
        asks("15 in the next", second, x -> x.drawn(1, 2, 15), 0);
        asks("16 in the next", second, x -> x.drawn(1, 2, 16), 1);
    }

    static void promise29_eveningsFromNow() {
        RentedViews x = shop(views(of(LAKE, 1, 0, 0)), renters(of(1, 0, 0)));
        due("evening 0", x.drawn(0, 1, 100), 1);
        due("evenings 0 to 5", x.drawn(0, 6, 100), 1);
        due("evenings 0 to 6", x.drawn(0, 7, 100), 2);
        due("evenings 0 to 29", x.drawn(0, 30, 100), 5);
        x.night();
        due("evening 1", x.drawn(0, 1, 100), 0);
        due("evenings 1 to 30", x.drawn(0, 30, 100), 5);
        for (int e = 1; e < 100; e++) {
            x.night();
        }
        due("evenings 100, 101", x.drawn(0, 2, 100), 0);
        due("evenings 100 to 102", x.drawn(0, 3, 100), 1);
    }

    static void promise29_pursesAsNowNothingPaid() {
        asks("30 times for 99, of 999", () -> oneView(99, 1), x -> x.drawn(0, 30, 100), 30);
        RentedViews x = shop(views(of(LAKE, 1, 50, 0)), renters(of(1, 99, 6)));
        x.let(0, 0);
        due("49 are left", x.drawn(0, 30, 100), 0);
    }

    static void promise29_onesOfEachKindInEvenings() {
        // a KITCHEN shows 0 always, FOGGED in 15 of 30 evenings
        asks("kitchen", () -> shop(views(of(KITCHEN, 1, 0, 0)), renters(of(1, 99, 0))), x -> x.drawn(0, 30, 100), 30);
        asks("fogged", () -> shop(views(of(FOGGED, 1, 0, 0)), renters(of(1, 99, 0))), x -> x.drawn(0, 30, 100), 15);
    }
}
