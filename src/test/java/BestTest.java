/** Promises 16 to 22: the best letting, as they come, one more, one changed, air. */
public final class BestTest {
    /** A row of the best letting: how many, how much, and each renter's view. */
    private static void best(RentedViews x, int evening, int many, int much, int... row) {
        Due.due(16, "best(" + evening + ", NONE)", x.best(evening, -1), many);
        Due.due(17, "money(" + evening + ")", x.money(evening), much);
        for (int r = 0; r < row.length; r++) {
            Due.due(16, "best(" + evening + ", " + r + ")", x.best(evening, r), row[r]);
        }
    }

    private static void come(RentedViews x, int evening, int many, int much, int regret) {
        Due.due(18, "come(" + evening + ", 0)", x.come(evening, 0), many);
        Due.due(18, "come(" + evening + ", 1)", x.come(evening, 1), much);
        Due.due(18, "come(" + evening + ", 2)", x.come(evening, 2), regret);
    }

    private static RentedViews shop(int[][] views, int[][] renters) {
        RentedViews x = new RentedViews();
        for (int[] v : views) {
            x.view(v[0], v[1], v[2], v[3]);
        }
        for (int[] r : renters) {
            x.renter(r[0], r[1], r[2]);
        }
        return x;
    }

    private static void mostAreSuitedAheadOfMoney() {
        // renter 0 may have both, renter 1 only the dear one: two are suited for 59, not one for 49
        RentedViews x = shop(new int[][] {{3, 1, 39, 0}, {3, 9, 0, 0}}, new int[][] {{9, 99, 6}, {1, 99, 6}});
        best(x, 0, 2, 59, 1, 0);
        come(x, 0, 1, 49, 1);
        // nothing let in it, purses as now
        x.let(0, 0);
        best(x, 0, 2, 59, 1, 0);
        come(x, 0, 1, 49, 1);
        x.night();
        x.let(0, 0);
        Due.due(16, "a purse of 1", x.about(0, 1), 1);
        best(x, 0, 1, 49, -1, 0);
        come(x, 99, 1, 49, 0);
    }

    private static void ofLikeOnesTheFirstRow() {
        // three like views, two like renters
        RentedViews x = shop(new int[][] {{3, 1, 5, 0}, {3, 1, 5, 0}, {3, 1, 5, 0}},
                new int[][] {{1, 15, 6}, {1, 15, 6}});
        best(x, 0, 2, 30, 0, 1);
        // one view and three who want it: none comes ahead of a view, so the last has it
        x = shop(new int[][] {{3, 1, 5, 0}}, new int[][] {{1, 15, 6}, {1, 15, 6}, {1, 15, 6}});
        best(x, 0, 1, 15, -1, -1, 0);
        come(x, 0, 1, 15, 0);
        // for nothing: most are suited nonetheless
        x = shop(new int[][] {{0, 1, 0, 0}}, new int[][] {{1, 0, 0}});
        best(x, 0, 1, 0, 0);
        best(x, 1, 0, 0, -1);
    }

    private static void asTheyCome() {
        // dearest is by what it is let for: a fire of 20 is dearer than a lake of 30, bricks of 61 are not
        RentedViews x = shop(new int[][] {{0, 1, 30, 0}, {2, 1, 20, 0}, {4, 9, 61, 0}},
                new int[][] {{9, 999, 6}, {9, 30, 6}, {1, 30, 0}});
        come(x, 0, 3, 100, 0);
        // of like ones the first: renter 0 takes the bricks, and the lake does not fit renter 1
        x = shop(new int[][] {{4, 9, 60, 0}, {0, 9, 30, 0}}, new int[][] {{9, 30, 6}, {1, 30, 6}});
        come(x, 0, 1, 30, 1);
        best(x, 0, 2, 60, 1, 0);
    }

    private static void refusedOfBest() {
        RentedViews x = shop(new int[][] {{0, 1, 30, 0}}, new int[][] {{9, 999, 6}});
        Due.due(16, "best(-1, -1)", x.best(-1, -1), -10);
        Due.due(16, "best(100, -1)", x.best(100, -1), -10);
        Due.due(16, "best(0, -2)", x.best(0, -2), -10);
        Due.due(16, "best(0, 1)", x.best(0, 1), -10);
        Due.due(16, "best(99, 0)", x.best(99, 0), 0);
        Due.due(17, "money(-1)", x.money(-1), -2);
        Due.due(17, "money(100)", x.money(100), -2);
        Due.due(17, "money(99)", x.money(99), 30);
        Due.due(18, "come(-1, 0)", x.come(-1, 0), -2);
        Due.due(18, "come(100, 0)", x.come(100, 0), -2);
        Due.due(18, "come(0, 3)", x.come(0, 3), -2);
        Due.due(18, "come(0, -1)", x.come(0, -1), -2);
        Due.due(16, "they count as BAD", x.status(0), 10);
        best(new RentedViews(), 0, 0, 0);
        come(new RentedViews(), 0, 0, 0, 0);
    }

    private static void more() {
        RentedViews x = shop(new int[][] {{0, 5, 30, 0}, {0, 1, 10, 2}}, new int[][] {{9, 99, 6}});
        long before = x.digest();
        Due.due(19, "another view is free", x.more(0, 5, 30, 0), 1);
        Due.due(19, "the other gives way", x.more(0, 1, 10, 2), 1);
        Due.due(19, "too dear", x.more(0, 5, 29, 0), 0);
        Due.due(19, "too large", x.more(0, 4, 30, 0), 0);
        Due.due(19, "another weather", x.more(0, 9, 999, 1), 0);
        Due.due(19, "another weather in evening 1", x.more(1, 9, 999, 1), 1);
        Due.due(19, "nothing is changed", x.digest(), before);
        x.renter(9, 99, 6);
        Due.due(19, "no view is free", x.more(0, 9, 999, 6), 0);
        int[][] bad = {{-1, 1, 0, 0}, {100, 1, 0, 0}, {0, 0, 0, 0}, {0, 10, 0, 0}, {0, 1, -1, 0},
            {0, 1, 1000, 0}, {0, 1, 0, -1}, {0, 1, 0, 7}};
        for (int[] b : bad) {
            Due.due(19, "more(" + b[0] + ", " + b[1] + ", " + b[2] + ", " + b[3] + ")", x.more(b[0], b[1], b[2], b[3]), -2);
        }
        for (int r = 2; r < 6; r++) {
            Due.due(19, "more", x.more(99, 9, 999, 6), 0);
            x.renter(1, 0, 0);
        }
        Due.due(19, "a 7th", x.more(0, 1, 0, 0), -3);
        Due.due(19, "a bad 7th", x.more(0, 0, 0, 0), -2);
        Due.due(19, "status(1)", x.status(1), 1);
    }

    private static void changed() {
        RentedViews x = shop(new int[][] {{0, 1, 5, 0}}, new int[][] {{9, 40, 0}, {9, 70, 1}});
        long before = x.digest();
        Due.due(20, "the most of a purse", x.changed(0, 0), 40);
        Due.due(20, "of the other's in evening 1", x.changed(1, 0), 70);
        Due.due(20, "nobody wants it: of like ones the least", x.changed(2, 0), 0);
        Due.due(20, "nothing is changed", x.digest(), before);
        x = shop(new int[][] {{2, 1, 5, 0}}, new int[][] {{9, 41, 0}});
        Due.due(20, "a fire, twice", x.changed(0, 0), 20);
        x = shop(new int[][] {{4, 1, 5, 0}}, new int[][] {{9, 41, 0}});
        Due.due(20, "bricks, half: 82 and 83 are alike", x.changed(0, 0), 82);
        x = shop(new int[][] {{4, 1, 5, 0}}, new int[][] {{9, 999, 0}});
        Due.due(20, "bricks, 98 and 99 are alike", x.changed(0, 0), 98);
        x = shop(new int[][] {{3, 1, 5, 0}}, new int[][] {{9, 9, 6}});
        Due.due(20, "a kitchen that none can pay", x.changed(0, 0), 0);
        x = shop(new int[][] {{3, 1, 5, 0}}, new int[][] {{9, 999, 6}});
        Due.due(20, "the last price", x.changed(0, 0), 99);
        // renter 0 alone can have either: the kitchen brings 30, this one up to 45
        x = shop(new int[][] {{0, 9, 5, 0}, {3, 1, 20, 0}}, new int[][] {{9, 45, 6}, {1, 20, 6}});
        Due.due(20, "of one", x.changed(0, 0), 45);
        // up to 30 both are suited, for 10 more than the price; above it one is
        x = shop(new int[][] {{0, 1, 5, 0}, {0, 9, 10, 0}}, new int[][] {{9, 45, 6}, {1, 30, 6}});
        Due.due(20, "two for 40 or one for 45", x.changed(0, 0), 45);
        RentedViews y = shop(new int[][] {{3, 1, 5, 0}}, new int[][] {{9, 15, 6}});
        Due.due(20, "as it is", y.changed(0, 0), 5);
        y = shop(new int[][] {{0, 1, 5, 0}, {0, 1, 30, 0}}, new int[][] {{9, 30, 6}});
        Due.due(20, "one has but one: the other brings 30 at every price", y.changed(0, 0), 0);
        y = shop(new int[][] {{0, 1, 5, 0}, {0, 1, 30, 0}}, new int[][] {{9, 50, 6}, {9, 60, 6}});
        Due.due(20, "the second has this one, the first the other", y.changed(0, 0), 60);
        Due.due(20, "changed(-1, 0)", x.changed(-1, 0), -2);
        Due.due(20, "changed(100, 0)", x.changed(100, 0), -2);
        Due.due(20, "changed(0, 2)", x.changed(0, 2), -2);
        Due.due(20, "changed(0, -1)", x.changed(0, -1), -2);
        Due.due(20, "changed(99, 1)", x.changed(99, 1), 45);
    }

    private static void air() {
        RentedViews x = shop(new int[][] {{0, 1, 0, 4}, {3, 1, 0, 5}, {1, 1, 0, 0}},
                new int[][] {{9, 99, 6}, {9, 99, 6}, {9, 99, 6}});
        Due.due(21, "none has a view", x.air(0), -1);
        x.let(0, 0);
        Due.due(21, "one has one", x.air(0), -1);
        Due.due(21, "one has one", x.air(1), -1);
        x.let(1, 1);
        Due.due(21, "4 and 5", x.air(0), 3);
        Due.due(21, "4 and 5", x.air(1), 3);
        Due.due(21, "nobody lives opposite", x.air(2), -2);
        Due.due(21, "air(3)", x.air(3), -2);
        Due.due(21, "air(-1)", x.air(-1), -2);
        Due.due(21, "air(-2)", x.air(-2), -2);
        x.night();
        Due.due(21, "all came back", x.air(0), -1);
        x.let(0, 0);
        x.let(1, 1);
        Due.due(21, "5 and 5", x.air(0), 4);
        x.renter(1, 1, 1);
        Due.due(21, "someone does now", x.air(2), -1);
        Due.due(21, "status(0)", x.status(0), 4);
    }

    private static void brought(RentedViews x, int renter, int w, int many, int which) {
        Due.due(22, "bring(" + renter + ", " + w + ", 0)", x.bring(renter, w, 0), many);
        Due.due(22, "bring(" + renter + ", " + w + ", 1)", x.bring(renter, w, 1), which);
    }

    private static void bring() {
        // kitchens show their weather always; the last but one is large, the last are bricks
        RentedViews x = shop(new int[][] {{3, 1, 0, 0}, {3, 1, 0, 1}, {3, 1, 90, 3}, {3, 9, 0, 5}, {4, 9, 0, 3}},
                new int[][] {{1, 10, 6}, {9, 99, 6}, {1, 10, 6}});
        brought(x, 0, 0, 2, 13);
        brought(x, 0, 1, 2, 1);
        x.let(0, 0);
        brought(x, 0, 1, 1, 1);
        brought(x, 0, 0, 2, 13);
        x.let(1, 1);
        brought(x, 0, 1, 0, 1);
        // the other may have 2 or 4: the first
        brought(x, 0, 3, 1, 2);
        // the large one fits the other's wall alone
        brought(x, 0, 5, 1, 3);
        // renter 0 takes the dear one, though the purse has not as much, or the bricks
        brought(x, 0, 4, 1, 21);
        // 5 hangs not with renter 0, and 1 and 1 would be one view
        brought(x, 0, 0, 2, 13);
        brought(x, 0, 2, 2, 23);
        Due.due(22, "an odd number", x.bring(1, 0, 0), -2);
        Due.due(22, "nobody lives opposite", x.bring(2, 0, 0), -2);
        Due.due(22, "bring(4, 0, 0)", x.bring(4, 0, 0), -2);
        Due.due(22, "bring(-2, 0, 0)", x.bring(-2, 0, 0), -2);
        Due.due(22, "bring(0, 6, 0)", x.bring(0, 6, 0), -2);
        Due.due(22, "bring(0, -1, 0)", x.bring(0, -1, 0), -2);
        Due.due(22, "bring(0, 0, 2)", x.bring(0, 0, 2), -2);
        Due.due(22, "bring(0, 0, -1)", x.bring(0, 0, -1), -2);
        Due.due(22, "status(0)", x.status(0), 8);
        x.renter(1, 0, 6);
        // the others no matter: 0 and 1 are let, and may be had
        x.night();
        x.let(0, 0);
        brought(x, 2, 1, 2, 1);
        x = shop(new int[][] {{3, 1, 0, 0}, {3, 1, 0, 1}}, new int[][] {{1, 10, 6}, {1, 10, 6}});
        brought(x, 0, 2, -1, -1);
        brought(x, 0, 0, -1, -1);
        // the one's view comes first, whoever took one first
        x.let(0, 1);
        x.let(1, 0);
        brought(x, 0, 1, 0, 10);
    }

    public static void main(String[] args) {
        mostAreSuitedAheadOfMoney();
        ofLikeOnesTheFirstRow();
        asTheyCome();
        refusedOfBest();
        more();
        changed();
        air();
        bring();
        Due.end();
    }
}
