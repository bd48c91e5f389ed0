import java.util.ArrayDeque;
import java.util.ArrayList;
import java.util.List;

/**
 * The document once more, as plainly as the Java library lets it be told: every search goes over
 * all there is, every state is a copy. It shares nothing with the class it is held against.
 */
final class Oracle {
    record View(int kind, int size, int price, int weather) {
        int shows(int e) {
            int lake = (weather + e) % 6;
            return switch (kind) {
                case 1 -> (weather + e + e) % 6;
                case 2 -> lake == 1 ? 0 : lake;
                case 3 -> weather;
                case 5 -> e % 2 == 1 ? 5 : weather;
                default -> lake;
            };
        }

        int cost() {
            return kind == 2 ? price + price : kind == 3 ? price + 10 : kind == 4 ? price / 2 : price;
        }

        boolean fits(int wall) {
            return kind == 4 || size <= wall;
        }

        View at(int newPrice) {
            return new View(kind, size, newPrice, weather);
        }
    }

    record Renter(int wall, int want) {
    }

    record Letting(int view, int renter, int evening) {
    }

    record Reading(int view, int evening, int weather) {
    }

    record Moment(List<Integer> purses, List<Integer> tenants, int takings, int evening, List<Letting> history) {
    }

    record Kept(List<View> views, List<Renter> renters, List<Integer> things, List<Reading> readings,
            Moment moment, List<Moment> past) {
    }

    private List<View> views = new ArrayList<>();
    private List<Renter> renters = new ArrayList<>();
    private List<Integer> things = new ArrayList<>();
    private List<Reading> readings = new ArrayList<>();
    private List<Integer> purses = new ArrayList<>();
    private List<Integer> tenants = new ArrayList<>();
    private List<Letting> history = new ArrayList<>();
    private int takings;
    private int evening;
    private ArrayDeque<Moment> past = new ArrayDeque<>();
    private final Kept[] images = new Kept[2];
    private String text = "";
    private long above = 0;
    private long below = 1;
    private final int[] status = new int[3];

    private int bad() {
        status[0]++;
        return -2;
    }

    private int bad10() {
        status[0]++;
        return -10;
    }

    private int no() {
        status[1]++;
        return -3;
    }

    private int full() {
        status[2]++;
        return -4;
    }

    private static boolean out(int n, int lo, int hi) {
        return n < lo || n > hi;
    }

    private boolean noView(int v) {
        return out(v, 0, views.size() - 1);
    }

    private boolean noRenter(int r) {
        return out(r, 0, renters.size() - 1);
    }

    int shop() {
        int n = views.size();
        views = new ArrayList<>();
        renters = new ArrayList<>();
        things = new ArrayList<>();
        readings = new ArrayList<>();
        purses = new ArrayList<>();
        tenants = new ArrayList<>();
        history = new ArrayList<>();
        takings = 0;
        evening = 0;
        past = new ArrayDeque<>();
        return n;
    }

    int view(int kind, int size, int price, int weather) {
        if (out(kind, 0, 5) || out(size, 1, 9) || out(price, 0, 99) || out(weather, 0, 5)) {
            return bad();
        }
        if (views.size() == 6) {
            return full();
        }
        views.add(new View(kind, size, price, weather));
        things.add(0);
        tenants.add(-1);
        past.clear();
        return views.size() - 1;
    }

    int renter(int wall, int purse, int want) {
        if (out(wall, 1, 9) || out(purse, 0, 999) || out(want, 0, 6)) {
            return bad();
        }
        if (renters.size() == 6) {
            return full();
        }
        renters.add(new Renter(wall, want));
        purses.add(purse);
        past.clear();
        return renters.size() - 1;
    }

    int things(int v, int set) {
        if (noView(v) || out(set, 0, 255)) {
            return bad();
        }
        return things.set(v, set);
    }

    int type(int c) {
        if (out(c, 0, 127)) {
            return bad();
        }
        if (text.length() == 150) {
            return full();
        }
        text += (char) c;
        return text.length();
    }

    int clear() {
        int n = text.length();
        text = "";
        return n;
    }

    /** A token and its place; the last one is empty, at the text's length. */
    record Token(String word, int place) {
    }

    private List<Token> tokens() {
        List<Token> all = new ArrayList<>();
        java.util.regex.Matcher m = java.util.regex.Pattern.compile("[a-z]+|[0-9]+|[^ ]", java.util.regex.Pattern.DOTALL).matcher(text);
        while (m.find()) {
            all.add(new Token(m.group(), m.start()));
        }
        all.add(new Token("", text.length()));
        return all;
    }

    int read() {
        List<Token> all = tokens();
        Oracle draft = new Oracle();
        int items = 0;
        int i = 0;
        while (i == 0 || !all.get(i).word.isEmpty()) {
            Token head = all.get(i);
            int[][] told;
            if (items == 0) {
                if (!head.word.equals("shop")) {
                    return -10 - head.place;
                }
                told = new int[][] {};
            } else if (head.word.equals("view") && draft.views.size() < 6) {
                told = new int[][] {{0, 5}, {1, 9}, {0, 99}, {0, 5}};
            } else if (head.word.equals("renter") && draft.renters.size() < 6) {
                told = new int[][] {{1, 9}, {0, 999}, {0, 6}};
            } else if (head.word.equals("thing")) {
                told = new int[][] {{0, draft.views.size() - 1}, {0, 7}};
            } else {
                return -10 - head.place;
            }
            int[] n = new int[4];
            for (int k = 0; k < told.length; k++) {
                Token t = all.get(++i);
                if (!t.word.matches("[0-9]{1,3}")) {
                    return -10 - t.place;
                }
                n[k] = Integer.parseInt(t.word);
                if (out(n[k], told[k][0], told[k][1])) {
                    return -10 - t.place;
                }
            }
            Token last = all.get(++i);
            if (!last.word.equals(";")) {
                return -10 - last.place;
            }
            i++;
            items++;
            if (head.word.equals("view")) {
                draft.view(n[0], n[1], n[2], n[3]);
            } else if (head.word.equals("renter")) {
                draft.renter(n[0], n[1], n[2]);
            } else if (head.word.equals("thing")) {
                draft.things.set(n[0], draft.things.get(n[0]) | 1 << n[1]);
            }
        }
        shop();
        views = draft.views;
        renters = draft.renters;
        things = draft.things;
        purses = draft.purses;
        tenants = draft.tenants;
        return items;
    }

    private Moment moment() {
        return new Moment(List.copyOf(purses), List.copyOf(tenants), takings, evening, List.copyOf(history));
    }

    private void back(Moment m) {
        purses = new ArrayList<>(m.purses);
        tenants = new ArrayList<>(m.tenants);
        takings = m.takings;
        evening = m.evening;
        history = new ArrayList<>(m.history);
    }

    private void remember() {
        past.addLast(moment());
        if (past.size() > 8) {
            past.removeFirst();
        }
    }

    int let(int v, int r) {
        if (noView(v) || noRenter(r)) {
            return bad();
        }
        int cost = views.get(v).cost();
        if (tenants.get(v) != -1 || tenants.contains(r) || !views.get(v).fits(renters.get(r).wall)
                || purses.get(r) < cost) {
            return no();
        }
        remember();
        purses.set(r, purses.get(r) - cost);
        takings += cost;
        tenants.set(v, r);
        history.add(new Letting(v, r, evening));
        if (history.size() > 12) {
            history.remove(0);
        }
        return cost;
    }

    int night() {
        remember();
        tenants.replaceAll(t -> -1);
        return ++evening;
    }

    int undo() {
        if (past.isEmpty()) {
            return no();
        }
        back(past.removeLast());
        return takings;
    }

    int of(int v, int what) {
        if (noView(v) || out(what, 0, 7)) {
            return bad10();
        }
        View x = views.get(v);
        return new int[] {x.kind, x.size, x.price, x.weather, x.shows(evening), x.cost(), tenants.get(v), things.get(v)}[what];
    }

    int about(int r, int what) {
        if (noRenter(r) || out(what, 0, 3)) {
            return bad10();
        }
        return new int[] {renters.get(r).wall, purses.get(r), renters.get(r).want, tenants.indexOf(r)}[what];
    }

    int shows(int v, int e) {
        return noView(v) || out(e, 0, 99) ? bad() : views.get(v).shows(e);
    }

    private static boolean suit(View x, Renter r, int purse, int e) {
        return x.fits(r.wall) && x.cost() <= purse && (r.want == 6 || r.want == x.shows(e));
    }

    int suits(int v, int r, int e) {
        if (noView(v) || noRenter(r) || out(e, 0, 99)) {
            return bad();
        }
        return suit(views.get(v), renters.get(r), purses.get(r), e) ? 1 : 0;
    }

    /** All rows in their order; a later one takes the place of an earlier one only if it is better. */
    private static final class Rows {
        final List<View> views;
        final List<Renter> renters;
        final List<Integer> purses;
        final int e;
        int count = -1;
        int money;
        int[] row;

        Rows(List<View> views, List<Renter> renters, List<Integer> purses, int e) {
            this.views = views;
            this.renters = renters;
            this.purses = purses;
            this.e = e;
            go(0, new int[renters.size()], 0, 0, 0);
        }

        private void go(int r, int[] at, int used, int n, int sum) {
            if (r == at.length) {
                if (n > count || n == count && sum > money) {
                    count = n;
                    money = sum;
                    row = at.clone();
                }
                return;
            }
            at[r] = -1;
            go(r + 1, at, used, n, sum);
            for (int v = 0; v < views.size(); v++) {
                if ((used >> v & 1) == 0 && suit(views.get(v), renters.get(r), purses.get(r), e)) {
                    at[r] = v;
                    go(r + 1, at, used | 1 << v, n + 1, sum + views.get(v).cost());
                }
            }
        }
    }

    private Rows rows(int e) {
        return new Rows(views, renters, purses, e);
    }

    int best(int e, int r) {
        if (out(e, 0, 99) || r != -1 && noRenter(r)) {
            return bad10();
        }
        return r == -1 ? rows(e).count : rows(e).row[r];
    }

    int money(int e) {
        return out(e, 0, 99) ? bad() : rows(e).money;
    }

    private int[] asTheyCome(int e, boolean[] comes) {
        int n = 0;
        int sum = 0;
        List<Integer> free = new ArrayList<>();
        for (int v = 0; v < views.size(); v++) {
            free.add(v);
        }
        for (int r = 0; r < renters.size(); r++) {
            int taken = -1;
            for (int v : free) {
                if (comes[r] && suit(views.get(v), renters.get(r), purses.get(r), e)
                        && (taken == -1 || views.get(v).cost() > views.get(taken).cost())) {
                    taken = v;
                }
            }
            if (taken != -1) {
                free.remove((Integer) taken);
                n++;
                sum += views.get(taken).cost();
            }
        }
        return new int[] {n, sum};
    }

    int come(int e, int what) {
        if (out(e, 0, 99) || out(what, 0, 2)) {
            return bad();
        }
        int[] got = asTheyCome(e, new boolean[] {true, true, true, true, true, true});
        return what == 2 ? rows(e).count - got[0] : got[what];
    }

    int more(int e, int wall, int purse, int want) {
        if (out(e, 0, 99) || out(wall, 1, 9) || out(purse, 0, 999) || out(want, 0, 6)) {
            return bad();
        }
        if (renters.size() == 6) {
            return no();
        }
        List<Renter> all = new ArrayList<>(renters);
        List<Integer> money = new ArrayList<>(purses);
        all.add(new Renter(wall, want));
        money.add(purse);
        return new Rows(views, all, money, e).count - rows(e).count;
    }

    int changed(int e, int v) {
        if (out(e, 0, 99) || noView(v)) {
            return bad();
        }
        int most = -1;
        int price = -1;
        List<View> other = new ArrayList<>(views);
        for (int p = 0; p <= 99; p++) {
            other.set(v, views.get(v).at(p));
            int money = new Rows(other, renters, purses, e).money;
            if (money > most) {
                most = money;
                price = p;
            }
        }
        return price;
    }

    private static int opposite(int r) {
        return r % 2 == 0 ? r + 1 : r - 1;
    }

    int air(int r) {
        if (noRenter(r) || noRenter(opposite(r))) {
            return bad();
        }
        int a = tenants.indexOf(r);
        int b = tenants.indexOf(opposite(r));
        return a < 0 || b < 0 ? -1 : (views.get(a).shows(evening) + views.get(b).shows(evening)) % 6;
    }

    int bring(int r, int w, int what) {
        if (noRenter(r) || r % 2 == 1 || noRenter(r + 1) || out(w, 0, 5) || out(what, 0, 1)) {
            return bad();
        }
        int hasA = tenants.indexOf(r);
        int hasB = tenants.indexOf(r + 1);
        for (int changes = 0; changes <= 2; changes++) {
            for (int a = 0; a < views.size(); a++) {
                for (int b = 0; b < views.size(); b++) {
                    int other = 0;
                    other += a != hasA ? 1 : 0;
                    other += b != hasB ? 1 : 0;
                    if (a != b && other == changes && views.get(a).fits(renters.get(r).wall)
                            && views.get(b).fits(renters.get(r + 1).wall)
                            && (views.get(a).shows(evening) + views.get(b).shows(evening)) % 6 == w) {
                        return what == 0 ? changes : 10 * a + b;
                    }
                }
            }
        }
        return -1;
    }

    int left(int v, int n, int what) {
        if (noView(v) || out(n, 0, 7) || out(what, 0, 1) || (things.get(v) & 1 << n) == 0) {
            return bad10();
        }
        int who = 0;
        int first = -1;
        for (Letting l : history) {
            if (l.view == v) {
                who |= 1 << l.renter;
                first = first == -1 ? l.evening : first;
            }
        }
        return what == 0 ? who : first;
    }

    int reading(int v, int e, int weather) {
        if (noView(v) || out(e, 0, 99) || out(weather, 0, 5)) {
            return bad();
        }
        if (readings.size() == 6) {
            return full();
        }
        readings.add(new Reading(v, e, weather));
        return readings.size();
    }

    int forget() {
        int n = readings.size();
        readings = new ArrayList<>();
        return n;
    }

    private List<View> pairs(int v) {
        List<View> all = new ArrayList<>();
        for (int kind = 0; kind < 6; kind++) {
            for (int weather = 0; weather < 6; weather++) {
                View x = new View(kind, 1, 0, weather);
                if (readings.stream().allMatch(s -> s.view != v || x.shows(s.evening) == s.weather)) {
                    all.add(x);
                }
            }
        }
        return all;
    }

    int is(int v, int what) {
        if (noView(v) || out(what, 0, 1)) {
            return bad();
        }
        List<View> all = pairs(v);
        return what == 1 ? all.size() : all.stream().mapToInt(x -> 1 << x.kind).reduce(0, (a, b) -> a | b);
    }

    int look(int v) {
        if (noView(v)) {
            return bad();
        }
        List<View> all = pairs(v);
        int best = -1;
        long least = Long.MAX_VALUE;
        for (int e = evening; e < evening + 12 && !all.isEmpty(); e++) {
            long most = 0;
            for (int w = 0; w < 6; w++) {
                int weather = w;
                int when = e;
                most = Math.max(most, all.stream().filter(x -> x.shows(when) == weather).count());
            }
            if (most < least) {
                least = most;
                best = e;
            }
        }
        return best;
    }

    int odds(int o) {
        if (out(o, 0, 10)) {
            return bad();
        }
        java.math.BigInteger sum = java.math.BigInteger.ZERO;
        int n = renters.size();
        for (int set = 0; set < 1 << n; set++) {
            boolean[] comes = new boolean[6];
            for (int r = 0; r < n; r++) {
                comes[r] = (set >> r & 1) == 1;
            }
            int k = Integer.bitCount(set);
            sum = sum.add(java.math.BigInteger.valueOf(o).pow(k)
                    .multiply(java.math.BigInteger.valueOf(10 - o).pow(n - k))
                    .multiply(java.math.BigInteger.valueOf(asTheyCome(evening, comes)[1])));
        }
        java.math.BigInteger whole = java.math.BigInteger.TEN.pow(n);
        java.math.BigInteger g = sum.gcd(whole);
        above = sum.divide(g).longValueExact();
        below = whole.divide(g).longValueExact();
        return 1;
    }

    int drawn(int seed, int n, int w) {
        if (out(seed, 0, 999999) || out(n, 0, 30) || out(w, 0, 100)) {
            return bad();
        }
        java.math.BigInteger x = java.math.BigInteger.valueOf(seed);
        int suited = 0;
        for (int e = evening; e < evening + n; e++) {
            boolean[] comes = new boolean[6];
            for (int r = 0; r < renters.size(); r++) {
                x = x.multiply(java.math.BigInteger.valueOf(1103515245)).add(java.math.BigInteger.valueOf(12345))
                        .mod(java.math.BigInteger.ONE.shiftLeft(31));
                comes[r] = x.longValueExact() / 65536 % 100 < w;
            }
            suited += asTheyCome(e, comes)[0];
        }
        return suited;
    }

    long part(int what) {
        return what == 0 ? above : what == 1 ? below : bad();
    }

    int image(int i) {
        if (out(i, 0, 1)) {
            return bad();
        }
        images[i] = new Kept(List.copyOf(views), List.copyOf(renters), List.copyOf(things),
                List.copyOf(readings), moment(), List.copyOf(past));
        return 1;
    }

    int from(int i) {
        if (out(i, 0, 1)) {
            return bad();
        }
        if (images[i] == null) {
            return no();
        }
        views = new ArrayList<>(images[i].views);
        renters = new ArrayList<>(images[i].renters);
        things = new ArrayList<>(images[i].things);
        readings = new ArrayList<>(images[i].readings);
        back(images[i].moment);
        past = new ArrayDeque<>(images[i].past);
        return 1;
    }

    int status(int what) {
        if (out(what, 0, 2)) {
            bad();
            return -1;
        }
        return status[what];
    }

    int count(int what) {
        if (out(what, 0, 8)) {
            return bad();
        }
        return new int[] {views.size(), renters.size(), evening, takings,
            (int) tenants.stream().filter(t -> t != -1).count(), history.size(), readings.size(),
            past.size(), text.length()}[what];
    }

    long digest() {
        List<Long> all = new ArrayList<>();
        for (int what = 0; what < 9; what++) {
            all.add((long) count(what));
        }
        for (int v = 0; v < views.size(); v++) {
            View x = views.get(v);
            for (int n : new int[] {x.kind, x.size, x.price, x.weather, tenants.get(v), things.get(v)}) {
                all.add((long) n);
            }
        }
        for (int r = 0; r < renters.size(); r++) {
            for (int n : new int[] {renters.get(r).wall, purses.get(r), renters.get(r).want}) {
                all.add((long) n);
            }
        }
        history.forEach(l -> all.addAll(List.of((long) l.view, (long) l.renter, (long) l.evening)));
        readings.forEach(s -> all.addAll(List.of((long) s.view, (long) s.evening, (long) s.weather)));
        all.addAll(List.of(above, below));
        long h = 997;
        for (long v : all) {
            h = 31 * h + v;
        }
        return h;
    }
}
