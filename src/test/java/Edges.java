import java.lang.reflect.InvocationTargetException;
import java.lang.reflect.Method;
import java.util.ArrayList;
import java.util.Arrays;
import java.util.Comparator;
import java.util.List;
import java.util.TreeSet;

/**
 * What the tests of the boundary cases share. Each class under this one has a test for each
 * sentence of the document that names such a case: a static method without parameters, named
 * promiseNN_ and the sentence. EdgesTest runs them all.
 */
abstract class Edges {
    static final int NONE = -1, BAD = -2, NO = -3, FULL = -4, APART = -10;

    private static String test = "";

    interface Call {
        long on(RentedViews x);
    }

    interface CallOf {
        long on(RentedViews x, int n);
    }

    interface Maker {
        RentedViews make();
    }

    /** Runs the tests of a class, and puts the numbers of their promises into a set. */
    static void run(Class<?> edges, TreeSet<Integer> promises) throws IllegalAccessException {
        Method[] all = edges.getDeclaredMethods();
        Arrays.sort(all, Comparator.comparing(Method::getName));
        for (Method m : all) {
            if (!m.getName().startsWith("promise")) {
                continue;
            }
            test = m.getName();
            promises.add(Integer.parseInt(test.substring(7, 9)));
            int before = Due.asked();
            try {
                m.invoke(null);
            } catch (InvocationTargetException e) {
                Due.say(test + ": threw " + e.getCause());
            }
            if (Due.asked() == before) {
                Due.say(test + ": asked nothing");
            }
        }
    }

    static void due(String call, long got, long want) {
        Due.due(test, call, got, want);
    }

    /** The call is answered so on a new shop, and is not refused. */
    static void taken(String call, Maker shop, Call made, long want) {
        RentedViews x = shop.make();
        RentedViews twin = shop.make();
        due(call, made.on(x), want);
        for (int what = 0; what < 3; what++) {
            due("status(" + what + ") behind " + call, x.status(what), twin.status(what));
        }
    }

    /** The call is answered so on a new shop, again too, and nothing is changed by it, STATUS neither. */
    static void asks(String call, Maker shop, Call made, long want) {
        RentedViews x = shop.make();
        due(call, made.on(x), want);
        due(call + " again", made.on(x), want);
        like("all behind " + call, x, shop.make());
    }

    /** The call is answered so on a new shop, and nothing is changed but STATUS, by 1, of that reason. */
    static void refused(String call, Maker shop, Call made, long answer, int reason) {
        RentedViews x = shop.make();
        RentedViews twin = shop.make();
        due(call, made.on(x), answer);
        for (int what = 0; what < 3; what++) {
            int one = what == BAD - reason ? 1 : 0;
            due("status(" + what + ") behind " + call, x.status(what), twin.status(what) + one);
        }
        same("all but STATUS behind " + call, state(x), state(twin));
    }

    /** The last numbers that are taken, each with its answer, and the first that are refused. */
    static void bounds(String call, Maker shop, CallOf made, int least, long atLeast, int most, long atMost,
            int refusal) {
        taken(call + " with n = " + least, shop, x -> made.on(x, least), atLeast);
        taken(call + " with n = " + most, shop, x -> made.on(x, most), atMost);
        outside(call, shop, made, least, most, refusal);
    }

    /** The first numbers that are refused on either side, and the very last there are. */
    static void outside(String call, Maker shop, CallOf made, int least, int most, int refusal) {
        for (int n : new int[] {least - 1, most + 1, Integer.MIN_VALUE, Integer.MAX_VALUE}) {
            refused(call + " with n = " + n, shop, x -> made.on(x, n), refusal, BAD);
        }
    }

    /** Two objects have the same state, STATUS too. Both are used up by it. */
    static void like(String what, RentedViews x, RentedViews y) {
        for (int reason = 0; reason < 3; reason++) {
            due("status(" + reason + "), " + what, x.status(reason), y.status(reason));
        }
        same(what, state(x), state(y));
    }

    private static void same(String what, List<Long> got, List<Long> want) {
        due(what + " " + got + " against " + want, got.equals(want) ? 1 : 0, 1);
    }

    /**
     * All of an object but STATUS, also what can be seen only by using it up: what may be undone,
     * the images and what may be undone in them, what THE TEXT says.
     */
    static List<Long> state(RentedViews x) {
        List<Long> all = new ArrayList<>();
        addNow(x, all);
        addPast(x, all);
        for (int i = 0; i < 2; i++) {
            all.add((long) x.from(i));
            all.add(x.digest());
            addPast(x, all);
        }
        all.add((long) x.read());
        all.add(x.digest());
        return all;
    }

    private static void addNow(RentedViews x, List<Long> all) {
        all.add(x.digest());
        for (int what = 0; what <= 8; what++) {
            all.add((long) x.count(what));
        }
        for (int v = 0; v < x.count(0); v++) {
            for (int what = 0; what <= 7; what++) {
                all.add((long) x.of(v, what));
            }
        }
        for (int r = 0; r < x.count(1); r++) {
            for (int what = 0; what <= 3; what++) {
                all.add((long) x.about(r, what));
            }
        }
        all.add(x.part(0));
        all.add(x.part(1));
    }

    private static void addPast(RentedViews x, List<Long> all) {
        for (int left = x.count(7); left > 0; left--) {
            all.add((long) x.undo());
            all.add(x.digest());
        }
    }

    // ---- shops

    static RentedViews empty() {
        return new RentedViews();
    }

    /** Two views, two renters, evening 1: some of everything, nothing let now. */
    static RentedViews small() {
        RentedViews x = new RentedViews();
        x.view(0, 3, 21, 1);
        x.view(4, 9, 31, 4);
        x.renter(4, 50, 6);
        x.renter(2, 15, 4);
        x.let(0, 0);
        x.night();
        x.things(0, 129);
        x.reading(0, 0, 1);
        Due.type(x, "shop;view 1 2 3 4;");
        x.image(1);
        x.odds(5);
        return x;
    }

    /** As much of everything as there may be: views of each kind, all let, in evening 1. */
    static RentedViews full() {
        RentedViews x = new RentedViews();
        for (int i = 0; i < 6; i++) {
            x.view(i, 9 - i, 10 + i, i);
            x.renter(9, 900 + i, 6);
            x.things(i, 255);
            x.reading(i, 99, i);
        }
        for (int i = 0; i < 6; i++) {
            x.let(i, i);
        }
        x.image(0);
        x.night();
        for (int i = 0; i < 6; i++) {
            x.let(i, (i + 1) % 6);
        }
        Due.type(x, LONGEST);
        x.image(1);
        x.odds(5);
        return x;
    }

    /** A text of 150 bytes that can be read, with 13 items. */
    static final String LONGEST = "shop;" + "view 0 1 0 0;".repeat(6) + "thing 0 0;".repeat(6) + "       ";

    static RentedViews shop(int[][] views, int[][] renters) {
        RentedViews x = new RentedViews();
        for (int[] v : views) {
            x.view(v[0], v[1], v[2], v[3]);
        }
        for (int[] r : renters) {
            x.renter(r[0], r[1], r[2]);
        }
        return x;
    }

    static int[][] views(int[]... all) {
        return all;
    }

    static int[][] renters(int[]... all) {
        return all;
    }

    static int[] of(int... told) {
        return told;
    }
}
