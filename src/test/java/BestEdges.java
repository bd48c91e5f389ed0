/** Boundary cases of promises 16 to 22: the best letting, as they come, one more, one changed, air. */
final class BestEdges extends Edges {
    private static final int LAKE = 0, FIRE = 2, KITCHEN = 3, BRICKS = 4;

    private static RentedViews viewsAlone() {
        return shop(views(of(LAKE, 1, 5, 0), of(LAKE, 1, 5, 0)), renters());
    }

    private static RentedViews rentersAlone() {
        return shop(views(), renters(of(9, 99, 6), of(9, 99, 6)));
    }

    /** Six of one VIEW, six of one RENTER. */
    private static RentedViews sixAlike(int kind, int price, int purse) {
        RentedViews x = new RentedViews();
        for (int i = 0; i < 6; i++) {
            x.view(kind, 1, price, 0);
            x.renter(1, purse, 6);
        }
        return x;
    }

    /** A VIEW and a RENTER who wants any, with a wall of 1. */
    private static RentedViews one(int kind, int size, int price, int purse) {
        return shop(views(of(kind, size, price, 0)), renters(of(1, purse, 6)));
    }

    private static RentedViews someRenters(int n) {
        RentedViews x = new RentedViews();
        for (int i = 0; i < 6; i++) {
            x.view(KITCHEN, 1, 0, i);
        }
        for (int i = 0; i < n; i++) {
            x.renter(1, 99, 6);
        }
        return x;
    }

    // ---- 16 best

    static void promise16_anEveningIs0To99() {
        bounds("best(n, NONE)", Edges::small, (x, n) -> x.best(n, NONE), 0, 2, 99, 1, APART);
        bounds("best(n, 0)", Edges::small, (x, n) -> x.best(n, 0), 0, 0, 99, 0, APART);
    }

    static void promise16_rIsNoneOrARenterThatIsThere() {
        bounds("best(0, n)", Edges::small, (x, n) -> x.best(0, n), NONE, 2, 1, 1, APART);
        bounds("best(0, n) of a full shop", Edges::full, (x, n) -> x.best(0, n), NONE, 6, 5, 5, APART);
        refused("best(0, 0) of an empty shop", Edges::empty, x -> x.best(0, 0), APART, BAD);
        refused("best(0, 0) without renters", BestEdges::viewsAlone, x -> x.best(0, 0), APART, BAD);
    }

    static void promise16_noneAreSuited() {
        asks("an empty shop", Edges::empty, x -> x.best(0, NONE), 0);
        asks("without renters", BestEdges::viewsAlone, x -> x.best(0, NONE), 0);
        asks("without views", BestEdges::rentersAlone, x -> x.best(0, NONE), 0);
        asks("without views, of a renter", BestEdges::rentersAlone, x -> x.best(0, 1), NONE);
        asks("too dear by 1", () -> sixAlike(LAKE, 6, 5), x -> x.best(0, NONE), 0);
        asks("too dear by 1, of a renter", () -> sixAlike(LAKE, 6, 5), x -> x.best(0, 5), NONE);
    }

    static void promise16_allSixAreSuited() {
        asks("best(0, NONE)", () -> sixAlike(LAKE, 5, 5), x -> x.best(0, NONE), 6);
        for (int r = 0; r < 6; r++) {
            int who = r;
            asks("best(0, " + r + ")", () -> sixAlike(LAKE, 5, 5), x -> x.best(0, who), who);
        }
    }

    static void promise16_asIfNothingWereLetInIt() {
        asks("all six are let", Edges::full, x -> x.best(1, NONE), 6);
        asks("the first row", Edges::full, x -> x.best(1, 0), 0);
    }

    static void promise16_pursesAsNow() {
        RentedViews x = shop(views(of(LAKE, 1, 50, 0)), renters(of(1, 99, 6)));
        x.let(0, 0);
        due("49 are left, in evening 0", x.best(0, NONE), 0);
        due("in evening 99", x.best(99, NONE), 0);
        x.undo();
        due("99 again", x.best(0, NONE), 1);
    }

    static void promise16_eachViewOnceAtMost() {
        RentedViews x = shop(views(of(LAKE, 1, 5, 0)), renters(of(1, 5, 6), of(1, 5, 6), of(1, 5, 6)));
        due("how many", x.best(0, NONE), 1);
        due("none comes first", x.best(0, 0), NONE);
        due("none comes first", x.best(0, 1), NONE);
        due("the last has it", x.best(0, 2), 0);
    }

    static void promise16_byWhichMostAreSuited() {
        // view 0 alone fits renter 1: renter 0 has the one for nothing
        RentedViews x = shop(views(of(FIRE, 1, 99, 0), of(LAKE, 9, 0, 0)), renters(of(9, 999, 6), of(1, 198, 6)));
        due("how many", x.best(0, NONE), 2);
        due("the one for 0", x.best(0, 0), 1);
        due("the one for 198", x.best(0, 1), 0);
        x = shop(views(of(FIRE, 1, 99, 0), of(LAKE, 9, 0, 0)), renters(of(9, 999, 6), of(1, 197, 6)));
        due("1 less: how many", x.best(0, NONE), 1);
        due("1 less: the dear one", x.best(0, 0), 0);
        due("1 less: none", x.best(0, 1), NONE);
    }

    static void promise16_alsoForNothing() {
        RentedViews x = shop(views(of(FIRE, 1, 99, 0), of(LAKE, 1, 0, 0)), renters(of(1, 999, 6), of(1, 0, 6)));
        due("how many", x.best(0, NONE), 2);
        due("how much", x.money(0), 198);
        due("the one for 0", x.best(0, 1), 1);
    }

    static void promise16_ofTheseForMostMoney() {
        RentedViews x = shop(views(of(LAKE, 1, 5, 0), of(LAKE, 1, 6, 0), of(LAKE, 1, 4, 0)), renters(of(1, 9, 6)));
        due("the view for 6", x.best(0, 0), 1);
        due("how much", x.money(0), 6);
    }

    static void promise16_ofLikeOnesTheFirstRow() {
        RentedViews x = shop(views(of(LAKE, 1, 5, 0), of(LAKE, 1, 5, 0)), renters(of(1, 9, 6), of(1, 9, 6)));
        due("best(0, 0)", x.best(0, 0), 0);
        due("best(0, 1)", x.best(0, 1), 1);
        // none ahead of a view: 0 has none, though 0 and 1 could have it alike
        x = shop(views(of(LAKE, 1, 5, 0), of(LAKE, 9, 5, 0)), renters(of(1, 9, 6), of(1, 9, 6), of(9, 9, 6)));
        due("best(0, 0)", x.best(0, 0), NONE);
        due("best(0, 1)", x.best(0, 1), 0);
        due("best(0, 2)", x.best(0, 2), 1);
    }

    /** The rows of a search are used again: none of another's may be left in them. */
    static void promise16_behindOtherQuestions() {
        RentedViews x = someRenters(2);
        due("how many", x.best(0, NONE), 2);
        due("one more", x.more(0, 1, 99, 6), 1);
        due("how many behind it", x.best(0, NONE), 2);
        due("how much behind it", x.money(0), 20);
        due("one more", x.more(0, 1, 99, 6), 1);
        due("as they come behind it", x.come(0, 0), 2);
        due("changed", x.changed(0, 0), 89);
        due("how many behind it", x.best(0, NONE), 2);
        due("regret behind it", x.come(0, 2), 0);
    }

    static void promise16_ofFewerThanBefore() {
        RentedViews x = someRenters(6);
        due("six", x.best(0, NONE), 6);
        x.shop();
        due("none", x.best(0, NONE), 0);
        x.view(KITCHEN, 1, 0, 0);
        due("a view alone", x.best(0, NONE), 0);
        x.renter(1, 10, 6);
        due("one", x.best(0, NONE), 1);
        due("its view", x.best(0, 0), 0);
        due("how much", x.money(0), 10);
        due("as they come", x.come(0, 0), 1);
    }

    static void promise16_nothingIsChangedByIt() {
        asks("best(0, 5)", Edges::full, x -> x.best(0, 5), 5);
    }

    // ---- 17 money

    static void promise17_anEveningIs0To99() {
        bounds("money(n)", Edges::small, (x, n) -> x.money(n), 0, 36, 99, 21, BAD);
    }

    static void promise17_none() {
        asks("an empty shop", Edges::empty, x -> x.money(0), 0);
        asks("without renters", BestEdges::viewsAlone, x -> x.money(0), 0);
        asks("without views", BestEdges::rentersAlone, x -> x.money(0), 0);
        asks("for nothing", () -> sixAlike(LAKE, 0, 0), x -> x.money(0), 0);
        asks("too dear by 1", () -> sixAlike(LAKE, 6, 5), x -> x.money(0), 0);
    }

    static void promise17_theMostThereCanBe() {
        asks("six fires of 99", () -> sixAlike(FIRE, 99, 198), x -> x.money(99), 1188);
        asks("six kitchens of 99", () -> sixAlike(KITCHEN, 99, 109), x -> x.money(99), 654);
    }

    static void promise17_ofMostWhoAreSuited() {
        int[][] both = views(of(LAKE, 1, 9, 0), of(FIRE, 1, 50, 0));
        asks("as much as each purse", () -> shop(both, renters(of(1, 100, 0), of(1, 9, 0))), x -> x.money(0), 109);
        asks("1 less in one", () -> shop(both, renters(of(1, 100, 0), of(1, 8, 0))), x -> x.money(0), 100);
        asks("1 less in the other", () -> shop(both, renters(of(1, 99, 0), of(1, 9, 0))), x -> x.money(0), 9);
    }

    // ---- 18 come

    static void promise18_anEveningIs0To99() {
        bounds("come(n, 0)", Edges::small, (x, n) -> x.come(n, 0), 0, 2, 99, 1, BAD);
        bounds("come(n, 1)", Edges::small, (x, n) -> x.come(n, 1), 0, 36, 99, 21, BAD);
        bounds("come(n, 2)", Edges::small, (x, n) -> x.come(n, 2), 0, 0, 99, 0, BAD);
    }

    static void promise18_whatIs0To2() {
        bounds("come(0, n)", Edges::small, (x, n) -> x.come(0, n), 0, 2, 2, 0, BAD);
    }

    static void promise18_nobodyComesNothingIsThere() {
        for (int what = 0; what <= 2; what++) {
            int which = what;
            asks("an empty shop", Edges::empty, x -> x.come(0, which), 0);
            asks("without renters", BestEdges::viewsAlone, x -> x.come(0, which), 0);
            asks("without views", BestEdges::rentersAlone, x -> x.come(0, which), 0);
            asks("too dear by 1", () -> sixAlike(LAKE, 6, 5), x -> x.come(0, which), 0);
        }
    }

    static void promise18_allSix() {
        asks("how many", () -> sixAlike(FIRE, 99, 198), x -> x.come(99, 0), 6);
        asks("how much", () -> sixAlike(FIRE, 99, 198), x -> x.come(99, 1), 1188);
        asks("regret", () -> sixAlike(FIRE, 99, 198), x -> x.come(99, 2), 0);
    }

    static void promise18_theDearestViewByWhatItIsLetFor() {
        // a lake of 60, a fire of 31, a kitchen of 51, bricks of 99: let for 60, 62, 61, 49
        RentedViews x = shop(
                views(of(LAKE, 1, 60, 0), of(FIRE, 1, 31, 0), of(KITCHEN, 1, 51, 0), of(BRICKS, 1, 99, 0)),
                renters(of(1, 999, 6)));
        due("how much", x.come(0, 1), 62);
    }

    static void promise18_ofLikeOnesTheFirst() {
        // renter 0 takes view 0, which alone fits renter 1
        RentedViews x = shop(views(of(LAKE, 1, 5, 0), of(LAKE, 9, 5, 0)), renters(of(9, 9, 6), of(1, 9, 6)));
        due("how many", x.come(0, 0), 1);
        due("regret", x.come(0, 2), 1);
        x = shop(views(of(LAKE, 9, 5, 0), of(LAKE, 1, 5, 0)), renters(of(9, 9, 6), of(1, 9, 6)));
        due("how many", x.come(0, 0), 2);
        due("regret", x.come(0, 2), 0);
    }

    static void promise18_rentersByNumbers() {
        RentedViews x = shop(views(of(LAKE, 1, 5, 0)), renters(of(1, 4, 6), of(1, 5, 6), of(1, 5, 6)));
        due("how many", x.come(0, 0), 1);
        due("how much", x.come(0, 1), 5);
    }

    static void promise18_asIfNothingWereLet() {
        asks("all six are let", Edges::full, x -> x.come(1, 0), 6);
    }

    static void promise18_pursesAsNow() {
        RentedViews x = shop(views(of(LAKE, 1, 50, 0)), renters(of(1, 99, 6)));
        x.let(0, 0);
        due("49 are left", x.come(0, 0), 0);
    }

    static void promise18_regretIsHowManyMoreAreSuitedByBest() {
        // three take the dear ones, which alone fit the three behind
        RentedViews x = new RentedViews();
        for (int i = 0; i < 6; i++) {
            x.view(LAKE, i < 3 ? 1 : 9, i < 3 ? 50 : 0, 0);
            x.renter(i < 3 ? 9 : 1, 999, 6);
        }
        due("as they come", x.come(0, 0), 3);
        due("best", x.best(0, NONE), 6);
        due("regret", x.come(0, 2), 3);
    }

    // ---- 19 more

    static void promise19_anEveningIs0To99() {
        bounds("more(n, 9, 999, 6)", Edges::small, (x, n) -> x.more(n, 9, 999, 6), 0, 0, 99, 1, BAD);
    }

    static void promise19_aWallIs1To9() {
        bounds("more(99, n, 999, 6)", Edges::small, (x, n) -> x.more(99, n, 999, 6), 1, 1, 9, 1, BAD);
    }

    static void promise19_aPurseIs0To999() {
        bounds("more(99, 9, n, 6)", Edges::small, (x, n) -> x.more(99, 9, n, 6), 0, 0, 999, 1, BAD);
    }

    static void promise19_aWantIs0To6() {
        bounds("more(99, 9, 999, n)", Edges::small, (x, n) -> x.more(99, 9, 999, n), 0, 0, 6, 1, BAD);
    }

    static void promise19_noIfThereAre6Renters() {
        asks("a 1st", () -> someRenters(0), x -> x.more(0, 1, 99, 6), 1);
        asks("a 6th", () -> someRenters(5), x -> x.more(0, 1, 99, 6), 1);
        refused("a 7th", () -> someRenters(6), x -> x.more(0, 1, 99, 6), NO, NO);
        refused("a 7th", Edges::full, x -> x.more(0, 1, 0, 0), NO, NO);
    }

    static void promise19_badComesAheadOfNo() {
        refused("evening 100", Edges::full, x -> x.more(100, 1, 0, 0), BAD, BAD);
        refused("wall 0", Edges::full, x -> x.more(0, 0, 0, 0), BAD, BAD);
        refused("purse 1000", Edges::full, x -> x.more(0, 1, 1000, 0), BAD, BAD);
        refused("want 7", Edges::full, x -> x.more(0, 1, 0, 7), BAD, BAD);
    }

    static void promise19_withoutViewsNobodyIs() {
        asks("an empty shop", Edges::empty, x -> x.more(0, 9, 999, 6), 0);
        asks("without views", BestEdges::rentersAlone, x -> x.more(0, 9, 999, 6), 0);
    }

    static void promise19_ifItFitsTheWall() {
        asks("as the wall", () -> shop(views(of(LAKE, 5, 0, 0)), renters()), x -> x.more(0, 5, 0, 6), 1);
        asks("1 more", () -> shop(views(of(LAKE, 5, 0, 0)), renters()), x -> x.more(0, 4, 0, 6), 0);
        asks("bricks", () -> shop(views(of(BRICKS, 9, 0, 0)), renters()), x -> x.more(0, 1, 0, 6), 1);
    }

    static void promise19_ifThePurseHasAsMuch() {
        asks("as much", () -> shop(views(of(FIRE, 1, 99, 0)), renters()), x -> x.more(0, 1, 198, 6), 1);
        asks("1 less", () -> shop(views(of(FIRE, 1, 99, 0)), renters()), x -> x.more(0, 1, 197, 6), 0);
    }

    static void promise19_theOthersGiveWay() {
        asks("renter 0 takes the other", () -> shop(views(of(LAKE, 1, 9, 0), of(LAKE, 9, 0, 0)), renters(of(9, 9, 6))),
                x -> x.more(0, 1, 9, 6), 1);
        asks("there is no other", () -> shop(views(of(LAKE, 1, 9, 0)), renters(of(9, 9, 6))),
                x -> x.more(0, 1, 9, 6), 0);
    }

    // ---- 20 changed

    static void promise20_anEveningIs0To99() {
        bounds("changed(n, 1)", Edges::small, (x, n) -> x.changed(n, 1), 0, 30, 99, 58, BAD);
    }

    static void promise20_aViewMustBeThere() {
        bounds("changed(0, n)", Edges::small, (x, n) -> x.changed(0, n), 0, 29, 1, 30, BAD);
        bounds("changed(0, n) of a full shop", Edges::full, (x, n) -> x.changed(0, n), 0, 99, 5, 99, BAD);
        refused("an empty shop", Edges::empty, x -> x.changed(0, 0), BAD, BAD);
        refused("without views", BestEdges::rentersAlone, x -> x.changed(0, 0), BAD, BAD);
    }

    static void promise20_thePriceIs0AtLeast() {
        asks("nobody comes", BestEdges::viewsAlone, x -> x.changed(0, 1), 0);
        asks("an empty purse", () -> one(LAKE, 1, 50, 0), x -> x.changed(0, 0), 0);
        asks("it never fits", () -> one(LAKE, 2, 50, 99), x -> x.changed(0, 0), 0);
        asks("9 for a kitchen", () -> one(KITCHEN, 1, 50, 9), x -> x.changed(0, 0), 0);
        asks("10 for a kitchen", () -> one(KITCHEN, 1, 50, 10), x -> x.changed(0, 0), 0);
        asks("11 for a kitchen", () -> one(KITCHEN, 1, 50, 11), x -> x.changed(0, 0), 1);
    }

    static void promise20_thePriceIs99AtMost() {
        asks("99 for a lake", () -> one(LAKE, 1, 0, 99), x -> x.changed(0, 0), 99);
        asks("98 for a lake", () -> one(LAKE, 1, 0, 98), x -> x.changed(0, 0), 98);
        asks("100 for a lake", () -> one(LAKE, 1, 0, 100), x -> x.changed(0, 0), 99);
        asks("198 for a fire", () -> one(FIRE, 1, 0, 198), x -> x.changed(0, 0), 99);
        asks("197 for a fire", () -> one(FIRE, 1, 0, 197), x -> x.changed(0, 0), 98);
        asks("109 for a kitchen", () -> one(KITCHEN, 1, 0, 109), x -> x.changed(0, 0), 99);
    }

    static void promise20_moreRentersThanViews() {
        int[][] lake = views(of(LAKE, 1, 50, 0));
        asks("the last has most", () -> shop(lake, renters(of(1, 10, 6), of(1, 20, 6), of(1, 60, 6))),
                x -> x.changed(0, 0), 60);
        asks("the first has most", () -> shop(lake, renters(of(1, 60, 6), of(1, 20, 6), of(1, 10, 6))),
                x -> x.changed(0, 0), 60);
        asks("the last wants another", () -> shop(lake, renters(of(1, 10, 6), of(1, 60, 1))), x -> x.changed(0, 0), 10);
    }

    static void promise20_ofLikeOnesTheLeast() {
        asks("49 for bricks: 98 and 99", () -> one(BRICKS, 1, 99, 999),
                x -> x.changed(0, 0), 98);
        asks("48 for bricks: 96 and 97", () -> one(BRICKS, 1, 99, 48),
                x -> x.changed(0, 0), 96);
        asks("another brings as much at any price",
                () -> shop(views(of(LAKE, 1, 50, 0), of(LAKE, 1, 99, 0)), renters(of(1, 99, 6))),
                x -> x.changed(0, 0), 0);
    }

    static void promise20_byBestNotByMoneyAlone() {
        // at 5 and less both are suited, for 10 at most; above it one is, for 9 at most
        asks("two for 10", () -> shop(views(of(LAKE, 1, 0, 0), of(LAKE, 9, 5, 0)), renters(of(9, 9, 6), of(1, 5, 6))),
                x -> x.changed(0, 0), 5);
        // at 3 and less both are suited, for 8 at most; above it one is, for 9
        asks("one for 9", () -> shop(views(of(LAKE, 1, 0, 0), of(LAKE, 9, 5, 0)), renters(of(9, 9, 6), of(1, 3, 6))),
                x -> x.changed(0, 0), 9);
    }

    static void promise20_nothingIsChangedByIt() {
        asks("changed(0, 2)", Edges::full, x -> x.changed(0, 2), 99);
    }

    // ---- 21 air

    private static RentedViews twoHung(int one, int other) {
        RentedViews x = shop(views(of(KITCHEN, 1, 0, one), of(KITCHEN, 1, 0, other)),
                renters(of(1, 99, 6), of(1, 99, 6)));
        x.let(0, 0);
        x.let(1, 1);
        return x;
    }

    static void promise21_aRenterMustBeThere() {
        bounds("air(n)", Edges::small, (x, n) -> x.air(n), 0, NONE, 1, NONE, BAD);
        bounds("air(n) of a full shop", Edges::full, (x, n) -> x.air(n), 0, 0, 5, 2, BAD);
        refused("an empty shop", Edges::empty, x -> x.air(0), BAD, BAD);
    }

    static void promise21_badIfOneOfBothIsNotThere() {
        for (int n = 1; n <= 5; n += 2) {
            int there = n;
            refused("the last of " + n, () -> someRenters(there), x -> x.air(there - 1), BAD, BAD);
            refused("the one behind the last of " + n, () -> someRenters(there), x -> x.air(there), BAD, BAD);
        }
    }

    static void promise21_opposite0And1And2And3And4And5() {
        RentedViews x = someRenters(6);
        for (int r = 0; r < 6; r++) {
            x.let(r, r);
        }
        int[] told = {1, 1, 5, 5, 3, 3};
        for (int r = 0; r < 6; r++) {
            due("air(" + r + ")", x.air(r), told[r]);
        }
    }

    static void promise21_noneIfOneHasNone() {
        RentedViews x = someRenters(4);
        due("none has one", x.air(0), NONE);
        x.let(0, 0);
        due("the one has one", x.air(0), NONE);
        due("asked by the other", x.air(1), NONE);
        x.let(3, 3);
        due("the other has one", x.air(2), NONE);
        x.let(1, 1);
        due("both", x.air(0), 1);
        x.night();
        due("both came back", x.air(0), NONE);
        x.undo();
        due("both again", x.air(1), 1);
    }

    static void promise21_weathersTogetherBy6LeftOver() {
        for (int one = 0; one < 6; one++) {
            for (int other = 0; other < 6; other++) {
                int a = one;
                int b = other;
                asks("air of " + a + " and " + b, () -> twoHung(a, b), x -> x.air(1), a + b > 5 ? a + b - 6 : a + b);
            }
        }
    }

    static void promise21_theWeathersThatAreShown() {
        RentedViews x = shop(views(of(FIRE, 1, 0, 1), of(LAKE, 1, 0, 5)), renters(of(1, 99, 6), of(1, 99, 6)));
        x.let(0, 0);
        x.let(1, 1);
        due("0 in place of 1, and 5", x.air(0), 5);
        x.night();
        x.let(0, 0);
        x.let(1, 1);
        due("2 and 0", x.air(0), 2);
    }

    // ---- 22 bring

    static void promise22_aRenterMustBeThere() {
        bounds("bring(n, 0, 0)", Edges::full, (x, n) -> x.bring(n, 0, 0), 0, 0, 4, 1, BAD);
        outside("bring(n, 0, 0) of two", Edges::small, (x, n) -> x.bring(n, 0, 0), 0, 1, BAD);
        refused("an empty shop", Edges::empty, x -> x.bring(0, 0, 0), BAD, BAD);
    }

    static void promise22_badIfAnOddNumber() {
        for (int r = 1; r < 6; r += 2) {
            int odd = r;
            refused("bring(" + r + ", 0, 0)", Edges::full, x -> x.bring(odd, 0, 0), BAD, BAD);
        }
    }

    static void promise22_badIfTheOtherIsNotThere() {
        for (int n = 1; n <= 5; n += 2) {
            int there = n;
            refused("the last of " + n, () -> someRenters(there), x -> x.bring(there - 1, 0, 0), BAD, BAD);
        }
        asks("the last two of 2", () -> someRenters(2), x -> x.bring(0, 1, 1), 1);
        asks("the last two of 4", () -> someRenters(4), x -> x.bring(2, 1, 1), 1);
        asks("the last two of 6", () -> someRenters(6), x -> x.bring(4, 1, 1), 1);
    }

    static void promise22_aWeatherIs0To5() {
        bounds("bring(0, n, 1)", () -> someRenters(2), (x, n) -> x.bring(0, n, 1), 0, 15, 5, 5, BAD);
        bounds("bring(0, n, 0)", Edges::full, (x, n) -> x.bring(0, n, 0), 0, 0, 5, NONE, BAD);
    }

    static void promise22_whatIs0To1() {
        bounds("bring(0, 0, n)", Edges::full, (x, n) -> x.bring(0, 0, n), 0, 0, 1, 50, BAD);
    }

    private static void brought(Maker shop, int w, int many, int which) {
        asks("bring(0, " + w + ", 0)", shop, x -> x.bring(0, w, 0), many);
        asks("bring(0, " + w + ", 1)", shop, x -> x.bring(0, w, 1), which);
    }

    static void promise22_noneIsToBeHungOtherwise() {
        brought(() -> twoHung(4, 5), 3, 0, 1);
        brought(() -> twoHung(0, 0), 0, 0, 1);
    }

    static void promise22_none() {
        brought(() -> twoHung(4, 5), 2, NONE, NONE);
        brought(() -> shop(views(), renters(of(1, 0, 6), of(1, 0, 6))), 0, NONE, NONE);
        brought(() -> shop(views(of(LAKE, 1, 0, 0)), renters(of(1, 0, 6), of(1, 0, 6))), 0, NONE, NONE);
    }

    static void promise22_bothToWhomNoneIsLet() {
        brought(() -> someRenters(2), 1, 2, 1);
        brought(() -> someRenters(2), 0, 2, 15);
    }

    static void promise22_oneOfTwo() {
        brought(() -> {
            RentedViews x = someRenters(2);
            x.let(2, 0);
            return x;
        }, 3, 1, 21);
        brought(() -> {
            RentedViews x = someRenters(2);
            x.let(2, 1);
            return x;
        }, 3, 1, 12);
        // 0 and 1 hang: 1 hung otherwise, 4 and 1, comes behind 0 and 5
        brought(() -> {
            RentedViews x = someRenters(2);
            x.let(0, 0);
            x.let(1, 1);
            return x;
        }, 5, 1, 5);
        // 5 and 1 hang, for 0: none; for 3: 2 and 1, ahead of 5 and 4
        brought(() -> {
            RentedViews x = someRenters(2);
            x.let(5, 0);
            x.let(1, 1);
            return x;
        }, 3, 1, 21);
    }

    static void promise22_bothOfTwo() {
        // 0 and 1 hang; 0 by one: 0 and 0, 5 and 1: that is one
        brought(() -> {
            RentedViews x = someRenters(2);
            x.let(0, 0);
            x.let(1, 1);
            return x;
        }, 0, 1, 51);
        // 3 and 3 would be one view, and so would 0 and 0: 1 and 5 for both
        brought(() -> {
            RentedViews x = someRenters(2);
            x.let(3, 0);
            x.let(0, 1);
            return x;
        }, 0, 2, 15);
    }

    static void promise22_bothAreUnlike() {
        int[][] two = renters(of(1, 99, 6), of(1, 99, 6));
        brought(() -> shop(views(of(KITCHEN, 1, 0, 3)), two), 0, NONE, NONE);
        brought(() -> shop(views(of(KITCHEN, 1, 0, 3), of(KITCHEN, 1, 0, 3)), two), 0, 2, 1);
    }

    static void promise22_anyThatFitsTheWall() {
        int[][] both = views(of(LAKE, 5, 0, 0), of(LAKE, 6, 0, 1));
        brought(() -> shop(both, renters(of(5, 0, 6), of(6, 0, 6))), 1, 2, 1);
        brought(() -> shop(both, renters(of(6, 0, 6), of(5, 0, 6))), 1, 2, 10);
        brought(() -> shop(both, renters(of(5, 0, 6), of(5, 0, 6))), 1, NONE, NONE);
        int[][] bricks = views(of(LAKE, 5, 0, 0), of(BRICKS, 9, 0, 1));
        brought(() -> shop(bricks, renters(of(5, 0, 6), of(1, 0, 6))), 1, 2, 1);
    }

    static void promise22_pursesNoMatter() {
        brought(() -> shop(views(of(FIRE, 1, 99, 0), of(FIRE, 1, 99, 2)), renters(of(1, 0, 6), of(1, 0, 6))), 2, 2, 1);
    }

    static void promise22_wantsNoMatter() {
        int[][] both = views(of(KITCHEN, 1, 0, 0), of(KITCHEN, 1, 0, 2));
        brought(() -> shop(both, renters(of(1, 0, 5), of(1, 0, 5))), 2, 2, 1);
    }

    static void promise22_theOthersNoMatter() {
        brought(() -> {
            RentedViews x = someRenters(4);
            x.let(0, 2);
            x.let(1, 3);
            return x;
        }, 1, 2, 1);
    }
}
