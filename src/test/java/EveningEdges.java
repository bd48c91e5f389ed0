/** Boundary cases of promises 9 to 15: lettings, nights, what is undone, shown, and suits. */
final class EveningEdges extends Edges {
    private static final int LAKE = 0, STREET = 1, FIRE = 2, KITCHEN = 3, BRICKS = 4, FOGGED = 5;

    private static RentedViews one(int kind, int size, int price, int wall, int purse) {
        return shop(views(of(kind, size, price, 0)), renters(of(wall, purse, 6)));
    }

    private static RentedViews bothFree() {
        return shop(views(of(0, 1, 7, 0), of(0, 1, 8, 0)), renters(of(1, 99, 6), of(1, 99, 6)));
    }

    private static RentedViews oneHasOne() {
        RentedViews x = bothFree();
        x.let(0, 0);
        return x;
    }

    private static RentedViews nights(RentedViews x, int n) {
        for (int i = 0; i < n; i++) {
            x.night();
        }
        return x;
    }

    // ---- 9 let

    static void promise09_aViewMustBeThere() {
        bounds("let(n, 0)", Edges::small, (x, n) -> x.let(n, 0), 0, 21, 1, 15, BAD);
        outside("let(n, 0) of a full shop", Edges::full, (x, n) -> x.let(n, 0), 0, 5, BAD);
        refused("let(0, 0) of an empty shop", Edges::empty, x -> x.let(0, 0), BAD, BAD);
        refused("let(0, 0) without views", () -> shop(views(), renters(of(1, 0, 6))), x -> x.let(0, 0), BAD, BAD);
    }

    static void promise09_aRenterMustBeThere() {
        bounds("let(1, n)", Edges::small, (x, n) -> x.let(1, n), 0, 15, 1, 15, BAD);
        outside("let(0, n) of a full shop", Edges::full, (x, n) -> x.let(0, n), 0, 5, BAD);
        refused("let(0, 0) without renters", () -> shop(views(of(0, 1, 0, 0)), renters()), x -> x.let(0, 0), BAD, BAD);
    }

    static void promise09_badComesAheadOfNo() {
        refused("a view that is let, nobody", Edges::full, x -> x.let(0, 6), BAD, BAD);
        refused("no view, one who has one", Edges::full, x -> x.let(6, 0), BAD, BAD);
    }

    static void promise09_theViewIsFreeThisEvening() {
        taken("let(1, 1)", EveningEdges::oneHasOne, x -> x.let(1, 1), 8);
        refused("let(0, 1)", EveningEdges::oneHasOne, x -> x.let(0, 1), NO, NO);
    }

    static void promise09_theRenterIsFreeThisEvening() {
        refused("let(1, 0)", EveningEdges::oneHasOne, x -> x.let(1, 0), NO, NO);
        refused("let(0, 0) again", EveningEdges::oneHasOne, x -> x.let(0, 0), NO, NO);
    }

    static void promise09_bothAreFreeInTheNextEvening() {
        RentedViews x = oneHasOne();
        x.night();
        due("let(0, 1)", x.let(0, 1), 7);
        due("let(1, 0)", x.let(1, 0), 8);
    }

    static void promise09_theViewFitsTheWall() {
        for (int kind : new int[] {LAKE, STREET, FIRE, KITCHEN, FOGGED}) {
            int paid = kind == KITCHEN ? 10 : 0;
            for (int wall = 1; wall <= 8; wall++) {
                int w = wall;
                taken("a size as the wall", () -> one(kind, w, 0, w, 99), x -> x.let(0, 0), paid);
            }
            refused("a size of 2, a wall of 1", () -> one(kind, 2, 0, 1, 99), x -> x.let(0, 0), NO, NO);
            refused("a size of 9, a wall of 8", () -> one(kind, 9, 0, 8, 99), x -> x.let(0, 0), NO, NO);
        }
    }

    static void promise09_bricksFitAlways() {
        taken("a size of 9, a wall of 1", () -> one(BRICKS, 9, 2, 1, 99), x -> x.let(0, 0), 1);
    }

    static void promise09_thePurseHasAsMuch() {
        int[] fees = {99, 99, 198, 109, 49, 99};
        for (int kind = 0; kind < 6; kind++) {
            int k = kind;
            taken("as much", () -> one(k, 1, 99, 1, fees[k]), x -> x.let(0, 0), fees[k]);
            refused("1 less", () -> one(k, 1, 99, 1, fees[k] - 1), x -> x.let(0, 0), NO, NO);
        }
    }

    static void promise09_nothingIsPaidFromAnEmptyPurse() {
        for (int kind : new int[] {LAKE, STREET, FIRE, BRICKS, FOGGED}) {
            taken("for 0", () -> one(kind, 1, 0, 1, 0), x -> x.let(0, 0), 0);
        }
        taken("half of 1, cut", () -> one(BRICKS, 1, 1, 1, 0), x -> x.let(0, 0), 0);
        refused("half of 2", () -> one(BRICKS, 1, 2, 1, 0), x -> x.let(0, 0), NO, NO);
        refused("10 more than 0", () -> one(KITCHEN, 1, 0, 1, 9), x -> x.let(0, 0), NO, NO);
        taken("10 more than 0", () -> one(KITCHEN, 1, 0, 1, 10), x -> x.let(0, 0), 10);
    }

    static void promise09_suitingOrNot() {
        RentedViews x = shop(views(of(LAKE, 1, 5, 0)), renters(of(1, 5, 1)));
        due("suits(0, 0, 0)", x.suits(0, 0, 0), 0);
        due("let(0, 0)", x.let(0, 0), 5);
    }

    static void promise09_thatIsPaidFromThePurseComesToTakings() {
        RentedViews x = shop(views(of(FIRE, 1, 99, 0)), renters(of(1, 999, 6)));
        for (int i = 1; i <= 5; i++) {
            due("let(0, 0)", x.let(0, 0), 198);
            due("about(0, 1)", x.about(0, 1), 999 - 198 * i);
            due("count(3)", x.count(3), 198 * i);
            x.night();
        }
        due("9 are left", x.let(0, 0), NO);
        due("about(0, 1)", x.about(0, 1), 9);
    }

    static void promise09_allSixInOneEvening() {
        RentedViews x = full();
        due("count(4)", x.count(4), 6);
        for (int v = 0; v < 6; v++) {
            due("of(" + v + ", 6)", x.of(v, 6), (v + 1) % 6);
        }
    }

    static void promise09_historyIsTheLast12Lettings() {
        RentedViews x = shop(views(of(LAKE, 1, 0, 0), of(LAKE, 1, 0, 0)), renters(of(1, 0, 6)));
        x.things(0, 1);
        x.let(0, 0);
        for (int i = 2; i <= 12; i++) {
            x.night();
            x.let(1, 0);
            due("count(5)", x.count(5), i);
        }
        due("the first of 12", x.left(0, 0, 0), 1);
        x.night();
        x.let(1, 0);
        due("count(5) of 13", x.count(5), 12);
        due("it is out", x.left(0, 0, 0), 0);
        due("its evening, too", x.left(0, 0, 1), NONE);
    }

    static void promise09_aRefusedLettingIsNoneOfHistoryNorMayBeUndone() {
        RentedViews x = oneHasOne();
        x.let(0, 1);
        x.let(2, 1);
        due("count(5)", x.count(5), 1);
        due("count(7)", x.count(7), 1);
    }

    // ---- 10 night

    static void promise10_theEveningIsOneMore() {
        taken("night() of an empty shop", Edges::empty, x -> x.night(), 1);
        taken("night() of a full shop", Edges::full, x -> x.night(), 2);
        RentedViews x = small();
        for (int e = 2; e <= 300; e++) {
            due("night()", x.night(), e);
        }
        due("count(2)", x.count(2), 300);
    }

    static void promise10_eveningsGoOnPast99() {
        RentedViews x = nights(bothFree(), 99);
        due("count(2)", x.count(2), 99);
        due("night()", x.night(), 100);
        due("of(0, 4)", x.of(0, 4), 4);
        due("let(0, 0)", x.let(0, 0), 7);
        x.things(0, 1);
        due("left(0, 0, 1)", x.left(0, 0, 1), 100);
    }

    static void promise10_anObjectIsUsedFor512Calls() {
        RentedViews x = new RentedViews();
        x.view(STREET, 1, 0, 1);
        for (int e = 1; e <= 509; e++) {
            due("night()", x.night(), e);
        }
        due("of(0, 4), the 511th", x.of(0, 4), 5);
        due("look(0), the 512th", x.look(0), 510);
    }

    static void promise10_allViewsComeBackBothAreFree() {
        RentedViews x = full();
        x.night();
        due("count(4)", x.count(4), 0);
        for (int i = 0; i < 6; i++) {
            due("of(" + i + ", 6)", x.of(i, 6), NONE);
            due("about(" + i + ", 3)", x.about(i, 3), NONE);
        }
        for (int i = 0; i < 6; i++) {
            due("let again", x.let(i, (i + 1) % 6), x.of(i, 5));
        }
    }

    static void promise10_whatWasPaidStaysPaid() {
        RentedViews x = oneHasOne();
        x.night();
        due("about(0, 1)", x.about(0, 1), 92);
        due("count(3)", x.count(3), 7);
        due("count(5)", x.count(5), 1);
    }

    // ---- 11 undo

    static void promise11_noneMayBe() {
        refused("undo()", Edges::empty, x -> x.undo(), NO, NO);
        refused("undo()", EveningEdges::bothFree, x -> x.undo(), NO, NO);
        RentedViews x = small();
        due("undo()", x.undo(), 21);
        due("undo()", x.undo(), 0);
        due("undo()", x.undo(), NO);
        due("undo()", x.undo(), NO);
        due("status(1)", x.status(1), 2);
    }

    static void promise11_aLettingIsUndone() {
        RentedViews x = small();
        x.let(1, 1);
        due("undo()", x.undo(), 21);
        like("as ahead of the letting", x, small());
    }

    static void promise11_aNightIsUndone() {
        RentedViews x = small();
        RentedViews y = small();
        x.let(0, 0);
        y.let(0, 0);
        x.night();
        due("undo()", x.undo(), 42);
        due("of(0, 6)", x.of(0, 6), 0);
        like("as ahead of the night", x, y);
        x = full();
        x.night();
        x.undo();
        for (int v = 0; v < 6; v++) {
            due("of(" + v + ", 6)", x.of(v, 6), (v + 1) % 6);
        }
    }

    static void promise11_eightAtMost() {
        RentedViews x = bothFree();
        for (int n = 1; n <= 8; n++) {
            x.night();
            due("count(7)", x.count(7), n);
        }
        x.night();
        due("count(7) behind a 9th", x.count(7), 8);
        for (int left = 7; left >= 0; left--) {
            due("undo()", x.undo(), 0);
            due("count(7)", x.count(7), left);
        }
        due("count(2)", x.count(2), 1);
        due("undo() of the first", x.undo(), NO);
        due("count(2)", x.count(2), 1);
    }

    static void promise11_eightOfMany() {
        RentedViews x = shop(views(of(LAKE, 1, 1, 0)), renters(of(1, 999, 6)));
        for (int i = 0; i < 50; i++) {
            x.let(0, 0);
            x.night();
        }
        int[] takings = {50, 49, 49, 48, 48, 47, 47, 46};
        for (int t : takings) {
            due("undo()", x.undo(), t);
        }
        due("undo()", x.undo(), NO);
        due("about(0, 1)", x.about(0, 1), 953);
        due("count(2)", x.count(2), 46);
        due("count(4)", x.count(4), 0);
    }

    /** Twelve lettings; behind the renter that comes then, none may be undone. */
    private static RentedViews fullHistory() {
        RentedViews x = new RentedViews();
        x.view(LAKE, 1, 1, 0);
        x.renter(1, 20, 6);
        for (int i = 0; i < 12; i++) {
            x.let(0, 0);
            x.night();
        }
        x.renter(1, 20, 6);
        x.things(0, 1);
        return x;
    }

    static void promise11_aFullHistoryComesBack() {
        RentedViews x = fullHistory();
        due("the first", x.left(0, 0, 1), 0);
        x.let(0, 1);
        due("it is out", x.left(0, 0, 1), 1);
        due("undo()", x.undo(), 12);
        due("the first again", x.left(0, 0, 1), 0);
        like("as ahead of the 13th", x, fullHistory());
    }

    static void promise11_behindAViewThatComesNoneMayBe() {
        RentedViews x = small();
        x.view(0, 1, 0, 0);
        due("count(7)", x.count(7), 0);
        refused("undo()", () -> {
            RentedViews y = small();
            y.view(0, 1, 0, 0);
            return y;
        }, y -> y.undo(), NO, NO);
    }

    static void promise11_behindARenterThatComesNoneMayBe() {
        RentedViews x = small();
        x.renter(1, 0, 0);
        due("count(7)", x.count(7), 0);
        refused("undo()", () -> {
            RentedViews y = small();
            y.renter(1, 0, 0);
            return y;
        }, y -> y.undo(), NO, NO);
    }

    static void promise11_behindOneThatIsRefusedItMayBe() {
        RentedViews x = full();
        x.view(0, 1, 0, 0);
        x.renter(1, 0, 0);
        x.view(9, 9, 9, 9);
        x.renter(0, 0, 0);
        due("count(7)", x.count(7), 8);
        due("undo()", x.undo(), 165);
    }

    static void promise11_whatComesBehindMayBeUndoneAgain() {
        RentedViews x = small();
        x.view(0, 1, 0, 0);
        x.night();
        due("undo()", x.undo(), 21);
        due("count(0)", x.count(0), 3);
        due("undo()", x.undo(), NO);
    }

    static void promise11_anUndoIsNotUndone() {
        RentedViews x = nights(bothFree(), 3);
        x.undo();
        due("count(7)", x.count(7), 2);
        x.undo();
        due("count(2)", x.count(2), 1);
    }

    static void promise11_readingsAreNotUndone() {
        RentedViews x = small();
        x.reading(1, 5, 5);
        x.undo();
        x.undo();
        due("count(6)", x.count(6), 2);
    }

    // ---- 12 of

    static void promise12_aViewMustBeThere() {
        bounds("of(n, 0)", Edges::small, (x, n) -> x.of(n, 0), 0, LAKE, 1, BRICKS, APART);
        bounds("of(n, 0) of a full shop", Edges::full, (x, n) -> x.of(n, 0), 0, LAKE, 5, FOGGED, APART);
        refused("of(0, 0) of an empty shop", Edges::empty, x -> x.of(0, 0), APART, BAD);
    }

    static void promise12_whatIs0To7() {
        bounds("of(0, n)", Edges::small, (x, n) -> x.of(0, n), 0, LAKE, 7, 129, APART);
        int[] told = {BRICKS, 9, 31, 4, 5, 15, NONE, 0};
        for (int what = 0; what <= 7; what++) {
            int which = what;
            asks("of(1, " + what + ")", Edges::small, x -> x.of(1, which), told[what]);
        }
    }

    static void promise12_forHowMuchItIsLet() {
        int[] least = {0, 0, 0, 10, 0, 0};
        int[] most = {99, 99, 198, 109, 49, 99};
        int[] middle = {51, 51, 102, 61, 25, 51};
        for (int kind = 0; kind < 6; kind++) {
            int k = kind;
            asks("a price of 0", () -> one(k, 1, 0, 1, 0), x -> x.of(0, 5), least[k]);
            asks("a price of 51", () -> one(k, 1, 51, 1, 0), x -> x.of(0, 5), middle[k]);
            asks("a price of 99", () -> one(k, 1, 99, 1, 0), x -> x.of(0, 5), most[k]);
        }
    }

    static void promise12_whatItShowsThisEvening() {
        for (int kind = 0; kind < 6; kind++) {
            RentedViews x = shop(views(of(kind, 1, 0, 5)), renters());
            for (int e = 0; e <= 130; e++) {
                due("kind " + kind + " in evening " + e, x.of(0, 4), SHOWN[kind][5].charAt(e % 6) - '0');
                x.night();
            }
        }
    }

    static void promise12_toWhomNow() {
        RentedViews x = oneHasOne();
        due("of(0, 6)", x.of(0, 6), 0);
        due("of(1, 6)", x.of(1, 6), NONE);
        due("let to the last renter", full().of(4, 6), 5);
    }

    // ---- 13 about

    static void promise13_aRenterMustBeThere() {
        bounds("about(n, 0)", Edges::small, (x, n) -> x.about(n, 0), 0, 4, 1, 2, APART);
        bounds("about(n, 1) of a full shop", Edges::full, (x, n) -> x.about(n, 1), 0, 875, 5, 883, APART);
        refused("about(0, 0) of an empty shop", Edges::empty, x -> x.about(0, 0), APART, BAD);
    }

    static void promise13_whatIs0To3() {
        bounds("about(0, n)", Edges::small, (x, n) -> x.about(0, n), 0, 4, 3, NONE, APART);
        int[] told = {2, 15, 4, NONE};
        for (int what = 0; what <= 3; what++) {
            int which = what;
            asks("about(1, " + what + ")", Edges::small, x -> x.about(1, which), told[what]);
        }
    }

    static void promise13_aPurseMayBeEmpty() {
        RentedViews x = one(FIRE, 1, 99, 1, 198);
        x.let(0, 0);
        due("about(0, 1)", x.about(0, 1), 0);
    }

    static void promise13_theViewNow() {
        RentedViews x = oneHasOne();
        due("about(0, 3)", x.about(0, 3), 0);
        due("about(1, 3)", x.about(1, 3), NONE);
        due("the last view", full().about(0, 3), 5);
    }

    // ---- 14 shows

    static void promise14_aViewMustBeThere() {
        bounds("shows(n, 0)", Edges::small, (x, n) -> x.shows(n, 0), 0, 1, 1, 4, BAD);
        bounds("shows(n, 2) of a full shop", Edges::full, (x, n) -> x.shows(n, 2), 0, 2, 5, 5, BAD);
        refused("shows(0, 0) of an empty shop", Edges::empty, x -> x.shows(0, 0), BAD, BAD);
    }

    static void promise14_anEveningIs0To99() {
        bounds("shows(0, n)", Edges::small, (x, n) -> x.shows(0, n), 0, 1, 99, 4, BAD);
    }

    static void promise14_ofAnyEveningWhateverThisOneIs() {
        RentedViews x = nights(small(), 200);
        due("shows(0, 0)", x.shows(0, 0), 1);
        due("shows(0, 99)", x.shows(0, 99), 4);
        due("shows(0, 201)", x.shows(0, 201), BAD);
    }

    /** By KIND and WEATHER: what is shown in the evenings 0 to 5; then it is so again. */
    private static final String[][] SHOWN = {
        {"012345", "123450", "234501", "345012", "450123", "501234"},
        {"024024", "135135", "240240", "351351", "402402", "513513"},
        {"002345", "023450", "234500", "345002", "450023", "500234"},
        {"000000", "111111", "222222", "333333", "444444", "555555"},
        {"012345", "123450", "234501", "345012", "450123", "501234"},
        {"050505", "151515", "252525", "353535", "454545", "555555"},
    };

    private static void shown(int kind) {
        for (int weather = 0; weather < 6; weather++) {
            RentedViews x = shop(views(of(kind, 1, 0, weather)), renters());
            for (int e = 0; e <= 99; e++) {
                int want = SHOWN[kind][weather].charAt(e % 6) - '0';
                due("kind " + kind + ", weather " + weather + ", evening " + e, x.shows(0, e), want);
            }
        }
    }

    static void promise14_lakeItsWeatherAndEBy6LeftOver() {
        shown(LAKE);
    }

    static void promise14_streetItsWeatherAndTwiceEBy6LeftOver() {
        shown(STREET);
    }

    static void promise14_fireAsLakeBut0InPlaceOf1() {
        shown(FIRE);
    }

    static void promise14_kitchenItsWeatherAlways() {
        shown(KITCHEN);
    }

    static void promise14_bricksAsLake() {
        shown(BRICKS);
    }

    static void promise14_foggedAsKitchenBut5InEveningsOfAnOddNumber() {
        shown(FOGGED);
    }

    // ---- 15 suits

    static void promise15_aViewMustBeThere() {
        bounds("suits(n, 0, 0)", Edges::small, (x, n) -> x.suits(n, 0, 0), 0, 1, 1, 1, BAD);
        bounds("suits(n, 0, 0) of a full shop", Edges::full, (x, n) -> x.suits(n, 0, 0), 0, 1, 5, 1, BAD);
        refused("suits(0, 0, 0) of an empty shop", Edges::empty, x -> x.suits(0, 0, 0), BAD, BAD);
        refused("without views", () -> shop(views(), renters(of(1, 0, 6))), x -> x.suits(0, 0, 0), BAD, BAD);
    }

    static void promise15_aRenterMustBeThere() {
        bounds("suits(1, n, 0)", Edges::small, (x, n) -> x.suits(1, n, 0), 0, 1, 1, 1, BAD);
        bounds("suits(0, n, 0) of a full shop", Edges::full, (x, n) -> x.suits(0, n, 0), 0, 1, 5, 1, BAD);
        refused("without renters", () -> shop(views(of(0, 1, 0, 0)), renters()), x -> x.suits(0, 0, 0), BAD, BAD);
    }

    static void promise15_anEveningIs0To99() {
        bounds("suits(1, 1, n)", Edges::small, (x, n) -> x.suits(1, 1, n), 0, 1, 99, 0, BAD);
    }

    static void promise15_ifItFitsTheWall() {
        for (int kind : new int[] {LAKE, STREET, FIRE, KITCHEN, FOGGED}) {
            asks("as the wall", () -> one(kind, 9, 0, 9, 99), x -> x.suits(0, 0, 0), 1);
            asks("1 more", () -> one(kind, 9, 0, 8, 99), x -> x.suits(0, 0, 0), 0);
            asks("1 and 1", () -> one(kind, 1, 0, 1, 99), x -> x.suits(0, 0, 0), 1);
        }
        asks("bricks", () -> one(BRICKS, 9, 0, 1, 99), x -> x.suits(0, 0, 0), 1);
    }

    static void promise15_ifItIsLetForNoMoreThanIsInThePurse() {
        int[] fees = {99, 99, 198, 109, 49, 99};
        for (int kind = 0; kind < 6; kind++) {
            int k = kind;
            asks("as much", () -> one(k, 1, 99, 1, fees[k]), x -> x.suits(0, 0, 0), 1);
            asks("1 less", () -> one(k, 1, 99, 1, fees[k] - 1), x -> x.suits(0, 0, 0), 0);
        }
        asks("nothing for nothing", () -> one(LAKE, 1, 0, 1, 0), x -> x.suits(0, 0, 0), 1);
    }

    static void promise15_ifItShowsWhatIsWantedOrAny() {
        for (int weather = 0; weather < 6; weather++) {
            for (int want = 0; want <= 6; want++) {
                int w = weather;
                int n = want;
                asks("weather " + w + ", want " + n,
                        () -> shop(views(of(KITCHEN, 1, 0, w)), renters(of(1, 10, n))),
                        x -> x.suits(0, 0, 99), n == 6 || n == w ? 1 : 0);
            }
        }
    }

    static void promise15_thePurseIsAsItIsNow() {
        RentedViews x = one(LAKE, 1, 50, 1, 99);
        due("suits(0, 0, 0)", x.suits(0, 0, 0), 1);
        x.let(0, 0);
        due("49 are left", x.suits(0, 0, 0), 0);
        x.undo();
        due("99 again", x.suits(0, 0, 0), 1);
    }

    static void promise15_letOrFreeIsNoMatter() {
        asks("all are let", Edges::full, x -> x.suits(3, 3, 1), 1);
    }
}
