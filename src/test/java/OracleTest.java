import java.util.Random;

/** Runs of calls drawn by a seed, answered by the class and by the Oracle alike. */
public final class OracleTest {
    private static final int RUNS = 2600;
    /** An object is used for 512 calls at most. */
    private static final int CALLS = 512;
    /** What every run ends with: digest and the three of STATUS. */
    private static final int LAST_CALLS = 4;
    private static final String[] WORDS = {"shop", "view", "renter", "thing", "views", "a"};

    private final Random random;
    private final int run;
    private final RentedViews x = new RentedViews();
    private final Oracle o = new Oracle();
    private int calls = 0;

    private OracleTest(int run) {
        this.run = run;
        this.random = new Random(run);
    }

    /** Mostly as told, at times just outside, seldom far off. */
    private int n(int lo, int hi) {
        int dice = random.nextInt(200);
        if (dice == 0) {
            return lo - 1;
        }
        if (dice == 1) {
            return hi + 1;
        }
        if (dice == 2) {
            int[] far = {Integer.MIN_VALUE, Integer.MAX_VALUE, -100, 1000, 31, 32, 64, -32};
            return far[random.nextInt(far.length)];
        }
        return lo + random.nextInt(hi - lo + 1);
    }

    private int view() {
        return n(0, Math.max(0, o.count(0) - 1));
    }

    private int renter() {
        return n(0, Math.max(0, o.count(1) - 1));
    }

    private int evening() {
        return random.nextInt(3) == 0 ? n(0, 99) : n(0, 8);
    }

    private int purse() {
        return random.nextInt(3) == 0 ? n(0, 999) : n(0, 120);
    }

    /** Each call of the object is asked through here, and so counted. */
    private void due(String call, long got, long want) {
        calls++;
        Due.due(0, "run " + run + ": " + call, got, want);
    }

    private String number(int lo, int hi) {
        int dice = random.nextInt(60);
        if (dice == 0) {
            return "0000";
        }
        if (dice == 1) {
            return "" + random.nextInt(1200);
        }
        String told = "" + (lo + random.nextInt(hi - lo + 1));
        return dice == 2 ? "0" + told : told;
    }

    private String item(int views) {
        switch (random.nextInt(5)) {
            case 0: case 1:
                return "view " + number(0, 5) + " " + number(1, 9) + " " + number(0, 99) + " " + number(0, 5);
            case 2: case 3:
                return "renter " + number(1, 9) + " " + number(0, 150) + " " + number(0, 6);
            default:
                return "thing " + number(0, Math.max(0, views)) + " " + number(0, 7);
        }
    }

    private String text() {
        StringBuilder all = new StringBuilder(random.nextInt(30) == 0 ? "" : "shop;");
        int views = -1;
        for (int i = random.nextInt(11); i > 0; i--) {
            String item = item(views);
            views += item.startsWith("view") ? 1 : 0;
            all.append(" ".repeat(random.nextInt(4) == 0 ? 2 : 0)).append(item).append(";");
        }
        if (random.nextInt(3) == 0 && all.length() > 0) {
            int at = random.nextInt(all.length());
            switch (random.nextInt(5)) {
                case 0: all.deleteCharAt(at); break;
                case 1: all.insert(at, WORDS[random.nextInt(WORDS.length)]); break;
                case 2: all.setCharAt(at, (char) random.nextInt(128)); break;
                case 3: all.insert(at, ' '); break;
                default: all.setLength(at);
            }
        }
        return all.toString();
    }

    private boolean hasRoomFor(int more) {
        return calls + more + LAST_CALLS <= CALLS;
    }

    private void readAText() {
        String text = text();
        if (!hasRoomFor(text.length() + 2)) {
            return;
        }
        due("clear", x.clear(), o.clear());
        for (int i = 0; i < text.length(); i++) {
            due("type", x.type(text.charAt(i)), o.type(text.charAt(i)));
        }
        due("read '" + text + "'", x.read(), o.read());
    }

    private void fill() {
        int a = n(0, 5), b = n(1, 9), c = n(0, 99), d = n(0, 5);
        int e = n(1, 9), f = purse(), g = n(0, 6);
        if (random.nextBoolean()) {
            due("view", x.view(a, b, c, d), o.view(a, b, c, d));
        } else {
            due("renter", x.renter(e, f, g), o.renter(e, f, g));
        }
    }

    private void change(int which) {
        int v = view(), r = renter(), i = n(0, 1), c = n(0, 127);
        switch (which) {
            case 0: due("shop", x.shop(), o.shop()); break;
            case 1: int set = n(0, 255); due("things", x.things(v, set), o.things(v, set)); break;
            case 2: due("type", x.type(c), o.type(c)); break;
            case 3: due("let", x.let(v, r), o.let(v, r)); break;
            case 4: due("night", x.night(), o.night()); break;
            case 5: due("undo", x.undo(), o.undo()); break;
            case 6:
                int e = evening(), shown = o.shows(v, e);
                due("shows", x.shows(v, e), shown);
                int w = random.nextInt(3) == 0 ? n(0, 5) : Math.max(0, shown);
                due("reading", x.reading(v, e, w), o.reading(v, e, w));
                break;
            case 7: due("forget", x.forget(), o.forget()); break;
            case 8: int ten = n(0, 10); due("odds", x.odds(ten), o.odds(ten)); break;
            case 9: due("image", x.image(i), o.image(i)); break;
            case 10: due("from", x.from(i), o.from(i)); break;
            default: readAText();
        }
    }

    private void ask(int which) {
        int v = view(), r = renter(), e = evening(), w = n(0, 5), i = n(0, 1);
        int what = n(0, 8), rest = n(0, 2), none = n(-1, Math.max(0, o.count(1) - 1));
        int wall = n(1, 9), purse = purse(), want = n(0, 6), thing = n(0, 7);
        int seed = n(0, 999999), evenings = n(0, 30), chance = n(0, 100);
        switch (which) {
            case 0: due("of", x.of(v, what), o.of(v, what)); break;
            case 1: due("about", x.about(r, what % 5), o.about(r, what % 5)); break;
            case 2: due("shows", x.shows(v, e), o.shows(v, e)); break;
            case 3: due("suits", x.suits(v, r, e), o.suits(v, r, e)); break;
            case 4: due("best(" + e + ", " + none + ")", x.best(e, none), o.best(e, none)); break;
            case 5: due("money(" + e + ")", x.money(e), o.money(e)); break;
            case 6: due("come(" + e + ", " + rest + ")", x.come(e, rest), o.come(e, rest)); break;
            case 7: due("more", x.more(e, wall, purse, want), o.more(e, wall, purse, want)); break;
            case 8:
                if (random.nextInt(8) == 0) {
                    due("changed(" + e + ", " + v + ")", x.changed(e, v), o.changed(e, v));
                }
                break;
            case 9: due("air", x.air(r), o.air(r)); break;
            case 10: case 11:
                int even = random.nextInt(6) == 0 ? r : r & ~1;
                due("bring", x.bring(even, w, i), o.bring(even, w, i));
                break;
            case 12: due("left", x.left(v, thing, i), o.left(v, thing, i)); break;
            case 13: due("is", x.is(v, i), o.is(v, i)); break;
            case 14: due("look", x.look(v), o.look(v)); break;
            case 15: due("drawn", x.drawn(seed, evenings, chance), o.drawn(seed, evenings, chance)); break;
            case 16: due("part", x.part(i), o.part(i)); break;
            case 17: due("status", x.status(rest), o.status(rest)); break;
            default: due("count", x.count(what), o.count(what));
        }
    }

    private void go() {
        while (hasRoomFor(2)) {
            int dice = random.nextInt(100);
            if (dice < 12) {
                fill();
            } else if (dice < 32) {
                change(3);
            } else if (dice < 38) {
                change(4 + random.nextInt(2));
            } else if (dice < 50) {
                change(random.nextInt(40) == 0 ? 11 : random.nextInt(14) == 0 ? 0 : 1 + random.nextInt(10));
            } else {
                ask(random.nextInt(19));
            }
            due("digest", x.digest(), o.digest());
        }
        for (int what = 0; what < 3; what++) {
            due("status", x.status(what), o.status(what));
        }
    }

    public static void main(String[] args) {
        for (int run = 0; run < RUNS; run++) {
            new OracleTest(run).go();
        }
        Due.end();
    }
}
