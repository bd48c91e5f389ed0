import java.util.Arrays;

/**
 * A shop of VIEWS that are rented out by the evening. Words in capitals are the document's.
 *
 * <p>The public calls look at their numbers and refuse, so that the classes inside need not: a
 * Shop is all that an IMAGE keeps, a Book the part of it that UNDO brings back.
 */
public final class RentedViews {
    public static final int NONE = -1, BAD = -2, NO = -3, FULL = -4;

    /** BAD, of the calls that are told to answer -10 for it; a FAULT is counted down from it too. */
    private static final int APART = -10;

    private static final int MOST = 6;
    private static final int KINDS = 6;
    private static final int WEATHERS = 6;
    private static final int ANY = 6;
    private static final int LAST_SIZE = 9;
    private static final int LAST_PRICE = 99;
    private static final int LAST_PURSE = 999;
    private static final int LAST_EVENING = 99;
    private static final int THINGS = 8;
    private static final int ALL_THINGS = 255;
    private static final int HISTORY = 12;
    private static final int UNDOS = 8;
    private static final int NEXT_EVENINGS = 12;
    private static final int IMAGES = 2;
    private static final int TEXT = 150;
    private static final int ODDS = 10;
    private static final int LAST_SEED = 999999;
    private static final int LAST_DRAWN = 30;
    private static final int SURE = 100;

    private final Shop[] images;
    private final Reader reader;
    private final Chooser chooser;
    private final Guesser guesser;
    private final int[] refused;
    private Shop now;
    private Shop draft;
    private long above;
    private long below;

    public RentedViews() {
        images = new Shop[IMAGES];
        reader = new Reader();
        chooser = new Chooser();
        guesser = new Guesser();
        refused = new int[3];
        now = new Shop();
        draft = new Shop();
        above = 0;
        below = 1;
    }

    // ---- a shop

    public int shop() {
        int had = now.views;
        now.empty();
        return had;
    }

    public int view(int kind, int size, int price, int weather) {
        if (!within(kind, 0, KINDS - 1) || !within(size, 1, LAST_SIZE)
                || !within(price, 0, LAST_PRICE) || !isWeather(weather)) {
            return refuse(BAD);
        }
        if (now.views >= MOST) {
            return refuse(FULL);
        }
        now.addView(kind, size, price, weather);
        return now.views - 1;
    }

    public int renter(int wall, int purse, int want) {
        if (!isRenterTold(wall, purse, want)) {
            return refuse(BAD);
        }
        if (now.renters >= MOST) {
            return refuse(FULL);
        }
        now.addRenter(wall, purse, want);
        return now.renters - 1;
    }

    public int things(int view, int set) {
        if (!isView(view) || !within(set, 0, ALL_THINGS)) {
            return refuse(BAD);
        }
        int had = now.things[view];
        now.things[view] = set;
        return had;
    }

    public int type(int c) {
        if (!within(c, 0, 127)) {
            return refuse(BAD);
        }
        if (reader.length >= TEXT) {
            return refuse(FULL);
        }
        reader.add((byte) c);
        return reader.length;
    }

    public int clear() {
        int had = reader.length;
        reader.length = 0;
        return had;
    }

    public int read() {
        int items = reader.readInto(draft);
        if (items == NONE) {
            return APART - reader.start;
        }
        Shop before = now;
        now = draft;
        draft = before;
        return items;
    }

    // ---- evenings

    public int let(int view, int renter) {
        if (!isView(view) || !isRenter(renter)) {
            return refuse(BAD);
        }
        if (!now.mayLet(view, renter)) {
            return refuse(NO);
        }
        now.remember();
        int paid = now.fee(view);
        now.book.write(view, renter, paid);
        return paid;
    }

    public int night() {
        now.remember();
        now.book.bringAllBack();
        now.book.evening++;
        return now.book.evening;
    }

    public int undo() {
        if (now.undos == 0) {
            return refuse(NO);
        }
        now.goBack();
        return now.book.takings;
    }

    public int of(int view, int what) {
        if (!isView(view)) {
            return refuseApart();
        }
        switch (what) {
            case 0: return now.kind[view];
            case 1: return now.size[view];
            case 2: return now.price[view];
            case 3: return now.weather[view];
            case 4: return now.showing(view, now.book.evening);
            case 5: return now.fee(view);
            case 6: return now.book.tenant[view];
            case 7: return now.things[view];
            default: return refuseApart();
        }
    }

    public int about(int renter, int what) {
        if (!isRenter(renter)) {
            return refuseApart();
        }
        switch (what) {
            case 0: return now.wall[renter];
            case 1: return now.book.purse[renter];
            case 2: return now.want[renter];
            case 3: return now.book.viewHeldBy(renter);
            default: return refuseApart();
        }
    }

    public int shows(int view, int evening) {
        if (!isView(view) || !isEvening(evening)) {
            return refuse(BAD);
        }
        return now.showing(view, evening);
    }

    public int suits(int view, int renter, int evening) {
        if (!isView(view) || !isRenter(renter) || !isEvening(evening)) {
            return refuse(BAD);
        }
        chooser.open(now, evening);
        return chooser.isSuited(view, renter) ? 1 : 0;
    }

    // ---- what is best

    public int best(int evening, int r) {
        if (!isEvening(evening) || (r != NONE && !isRenter(r))) {
            return refuseApart();
        }
        chooser.open(now, evening);
        int most = chooser.solve();
        return r == NONE ? Chooser.suitedIn(most) : chooser.viewInBest(r);
    }

    public int money(int evening) {
        if (!isEvening(evening)) {
            return refuse(BAD);
        }
        chooser.open(now, evening);
        return Chooser.moneyIn(chooser.solve());
    }

    public int come(int evening, int what) {
        if (!isEvening(evening) || !within(what, 0, 2)) {
            return refuse(BAD);
        }
        chooser.open(now, evening);
        int taken = chooser.asTheyCome(Chooser.EVERYONE);
        switch (what) {
            case 0: return Chooser.suitedIn(taken);
            case 1: return Chooser.moneyIn(taken);
            default: return Chooser.suitedIn(chooser.solve()) - Chooser.suitedIn(taken);
        }
    }

    public int more(int evening, int wall, int purse, int want) {
        if (!isEvening(evening) || !isRenterTold(wall, purse, want)) {
            return refuse(BAD);
        }
        if (now.renters >= MOST) {
            return refuse(NO);
        }
        chooser.open(now, evening);
        int without = Chooser.suitedIn(chooser.solve());
        chooser.addRenter(now, wall, purse, want);
        return Chooser.suitedIn(chooser.solve()) - without;
    }

    public int changed(int evening, int view) {
        if (!isEvening(evening) || !isView(view)) {
            return refuse(BAD);
        }
        return chooser.priceForMostMoney(now, evening, view);
    }

    public int air(int renter) {
        if (!isPair(renter)) {
            return refuse(BAD);
        }
        return now.airNow(renter, renter ^ 1);
    }

    public int bring(int renter, int w, int what) {
        if (!isPair(renter) || (renter & 1) != 0 || !isWeather(w) || !within(what, 0, 1)) {
            return refuse(BAD);
        }
        int found = now.fewestForAir(renter, w);
        if (found == NONE) {
            return NONE;
        }
        return what == 0 ? found / 100 : found % 100;
    }

    // ---- what was left, seen

    public int left(int v, int n, int what) {
        if (!isView(v) || !within(n, 0, THINGS - 1) || !within(what, 0, 1)
                || (now.things[v] >> n & 1) == 0) {
            return refuseApart();
        }
        return what == 0 ? now.book.rentersWhoHad(v) : now.book.firstEveningOf(v);
    }

    public int reading(int view, int evening, int weather) {
        if (!isView(view) || !isEvening(evening) || !isWeather(weather)) {
            return refuse(BAD);
        }
        if (now.readings >= MOST) {
            return refuse(FULL);
        }
        now.addReading(view, evening, weather);
        return now.readings;
    }

    public int forget() {
        int had = now.readings;
        now.readings = 0;
        return had;
    }

    public int is(int view, int what) {
        if (!isView(view) || !within(what, 0, 1)) {
            return refuse(BAD);
        }
        guesser.guess(now, view);
        return what == 0 ? guesser.kindBits() : guesser.pairs;
    }

    public int look(int view) {
        if (!isView(view)) {
            return refuse(BAD);
        }
        guesser.guess(now, view);
        return guesser.bestEvening(now);
    }

    public int odds(int o) {
        if (!within(o, 0, ODDS)) {
            return refuse(BAD);
        }
        chooser.open(now, now.book.evening);
        long sum = chooser.weighedMoney(o);
        long whole = 1;
        for (int r = 0; r < now.renters; r++) {
            whole *= ODDS;
        }
        long common = greatestCommon(sum, whole);
        above = sum / common;
        below = whole / common;
        return 1;
    }

    public int drawn(int seed, int n, int w) {
        if (!within(seed, 0, LAST_SEED) || !within(n, 0, LAST_DRAWN) || !within(w, 0, SURE)) {
            return refuse(BAD);
        }
        return chooser.suitedByDraw(now, seed, n, w);
    }

    // ---- what there is

    public long part(int what) {
        switch (what) {
            case 0: return above;
            case 1: return below;
            default: return refuse(BAD);
        }
    }

    public int image(int i) {
        if (!within(i, 0, IMAGES - 1)) {
            return refuse(BAD);
        }
        if (images[i] == null) {
            images[i] = new Shop();
        }
        images[i].copyFrom(now);
        return 1;
    }

    public int from(int i) {
        if (!within(i, 0, IMAGES - 1)) {
            return refuse(BAD);
        }
        if (images[i] == null) {
            return refuse(NO);
        }
        now.copyFrom(images[i]);
        return 1;
    }

    public int status(int what) {
        if (!within(what, 0, 2)) {
            refuse(BAD);
            return -1;
        }
        return refused[what];
    }

    public int count(int what) {
        switch (what) {
            case 0: return now.views;
            case 1: return now.renters;
            case 2: return now.book.evening;
            case 3: return now.book.takings;
            case 4: return now.book.letNow();
            case 5: return now.book.lettings;
            case 6: return now.readings;
            case 7: return now.undos;
            case 8: return reader.length;
            default: return refuse(BAD);
        }
    }

    public long digest() {
        long h = 997;
        for (int what = 0; what <= 8; what++) {
            h = 31 * h + count(what);
        }
        h = now.digestFrom(h);
        h = 31 * h + above;
        return 31 * h + below;
    }

    // ---- what a number must be, and what is refused

    private static boolean within(int number, int least, int most) {
        return number >= least && number <= most;
    }

    private static boolean isWeather(int weather) {
        return within(weather, 0, WEATHERS - 1);
    }

    private static boolean isEvening(int evening) {
        return within(evening, 0, LAST_EVENING);
    }

    private static boolean isRenterTold(int wall, int purse, int want) {
        return within(wall, 1, LAST_SIZE) && within(purse, 0, LAST_PURSE) && within(want, 0, ANY);
    }

    private boolean isView(int view) {
        return within(view, 0, now.views - 1);
    }

    private boolean isRenter(int renter) {
        return within(renter, 0, now.renters - 1);
    }

    private boolean isPair(int renter) {
        return isRenter(renter) && isRenter(renter ^ 1);
    }

    /** Answers the reason, which is one of BAD, NO, FULL: -2, -3, -4 are places 0, 1, 2. */
    private int refuse(int reason) {
        int place = BAD - reason;
        if (within(place, 0, 2)) {
            refused[place]++;
        }
        return reason;
    }

    private int refuseApart() {
        refuse(BAD);
        return APART;
    }

    /** Never 0, so that it may divide; a hundred steps are more than two longs can need. */
    private static long greatestCommon(long a, long b) {
        for (int step = 0; step < 100 && b != 0; step++) {
            long rest = a % b;
            a = b;
            b = rest;
        }
        return a == 0 ? 1 : a;
    }

    // ---- kinds: each is told by what is other than in the one it is under

    private static class Lake {
        int showing(int weather, int evening) {
            return Math.floorMod(weather + evening, WEATHERS);
        }

        int fee(int price) {
            return price;
        }

        boolean fits(int size, int wall) {
            return size <= wall;
        }
    }

    private static class Street extends Lake {
        int showing(int weather, int evening) {
            return Math.floorMod(weather + 2 * evening, WEATHERS);
        }
    }

    private static final class Fire extends Lake {
        int showing(int weather, int evening) {
            int lake = super.showing(weather, evening);
            return lake == 1 ? 0 : lake;
        }

        int fee(int price) {
            return 2 * super.fee(price);
        }
    }

    private static class Kitchen extends Street {
        int showing(int weather, int evening) {
            return weather;
        }

        int fee(int price) {
            return super.fee(price) + 10;
        }
    }

    private static final class Bricks extends Lake {
        int fee(int price) {
            return super.fee(price) / 2;
        }

        boolean fits(int size, int wall) {
            return true;
        }
    }

    private static final class Fogged extends Kitchen {
        int showing(int weather, int evening) {
            return (evening & 1) == 1 ? 5 : super.showing(weather, evening);
        }

        /** As LAKE would, past KITCHEN, which Java's super can not reach over. */
        int fee(int price) {
            return price;
        }
    }

    /** What UNDO brings back. It has rows of its own, so that one Book is copied over another. */
    private static final class Book {
        int evening;
        int takings;
        int lettings;
        final int[] purse = new int[MOST];
        final int[] tenant = new int[MOST];
        final int[] letView = new int[HISTORY];
        final int[] letRenter = new int[HISTORY];
        final int[] letEvening = new int[HISTORY];

        void empty() {
            evening = 0;
            takings = 0;
            lettings = 0;
            bringAllBack();
        }

        void copyFrom(Book other) {
            evening = other.evening;
            takings = other.takings;
            lettings = other.lettings;
            System.arraycopy(other.purse, 0, purse, 0, MOST);
            System.arraycopy(other.tenant, 0, tenant, 0, MOST);
            System.arraycopy(other.letView, 0, letView, 0, HISTORY);
            System.arraycopy(other.letRenter, 0, letRenter, 0, HISTORY);
            System.arraycopy(other.letEvening, 0, letEvening, 0, HISTORY);
        }

        void bringAllBack() {
            Arrays.fill(tenant, NONE);
        }

        void write(int view, int renter, int paid) {
            purse[renter] -= paid;
            takings += paid;
            tenant[view] = renter;
            if (lettings >= HISTORY) {
                dropFirstLetting();
            }
            letView[lettings] = view;
            letRenter[lettings] = renter;
            letEvening[lettings] = evening;
            lettings++;
        }

        private void dropFirstLetting() {
            System.arraycopy(letView, 1, letView, 0, HISTORY - 1);
            System.arraycopy(letRenter, 1, letRenter, 0, HISTORY - 1);
            System.arraycopy(letEvening, 1, letEvening, 0, HISTORY - 1);
            lettings = HISTORY - 1;
        }

        int viewHeldBy(int renter) {
            for (int v = 0; v < MOST; v++) {
                if (tenant[v] == renter) {
                    return v;
                }
            }
            return NONE;
        }

        int letNow() {
            int let = 0;
            for (int v = 0; v < MOST; v++) {
                if (tenant[v] != NONE) {
                    let++;
                }
            }
            return let;
        }

        int rentersWhoHad(int view) {
            int bits = 0;
            for (int i = 0; i < lettings; i++) {
                if (letView[i] == view) {
                    bits |= 1 << letRenter[i];
                }
            }
            return bits;
        }

        int firstEveningOf(int view) {
            for (int i = 0; i < lettings; i++) {
                if (letView[i] == view) {
                    return letEvening[i];
                }
            }
            return NONE;
        }
    }

    /** All that an IMAGE keeps. */
    private static final class Shop {
        final Lake[] kinds = {
            new Lake(), new Street(), new Fire(), new Kitchen(), new Bricks(), new Fogged()
        };
        int views;
        int renters;
        int readings;
        int undos;
        final int[] kind = new int[MOST];
        final int[] size = new int[MOST];
        final int[] price = new int[MOST];
        final int[] weather = new int[MOST];
        final int[] things = new int[MOST];
        final int[] wall = new int[MOST];
        final int[] want = new int[MOST];
        final int[] seenView = new int[MOST];
        final int[] seenEvening = new int[MOST];
        final int[] seenWeather = new int[MOST];
        final Book book = new Book();
        final Book[] past = new Book[UNDOS];

        Shop() {
            for (int i = 0; i < UNDOS; i++) {
                past[i] = new Book();
            }
            empty();
        }

        void empty() {
            views = 0;
            renters = 0;
            readings = 0;
            undos = 0;
            book.empty();
        }

        void copyFrom(Shop other) {
            views = other.views;
            renters = other.renters;
            readings = other.readings;
            undos = other.undos;
            System.arraycopy(other.kind, 0, kind, 0, MOST);
            System.arraycopy(other.size, 0, size, 0, MOST);
            System.arraycopy(other.price, 0, price, 0, MOST);
            System.arraycopy(other.weather, 0, weather, 0, MOST);
            System.arraycopy(other.things, 0, things, 0, MOST);
            System.arraycopy(other.wall, 0, wall, 0, MOST);
            System.arraycopy(other.want, 0, want, 0, MOST);
            System.arraycopy(other.seenView, 0, seenView, 0, MOST);
            System.arraycopy(other.seenEvening, 0, seenEvening, 0, MOST);
            System.arraycopy(other.seenWeather, 0, seenWeather, 0, MOST);
            book.copyFrom(other.book);
            for (int i = 0; i < undos; i++) {
                past[i].copyFrom(other.past[i]);
            }
        }

        void addView(int itsKind, int itsSize, int itsPrice, int itsWeather) {
            kind[views] = itsKind;
            size[views] = itsSize;
            price[views] = itsPrice;
            weather[views] = itsWeather;
            things[views] = 0;
            views++;
            undos = 0;
        }

        void addRenter(int itsWall, int itsPurse, int itsWant) {
            wall[renters] = itsWall;
            want[renters] = itsWant;
            book.purse[renters] = itsPurse;
            renters++;
            undos = 0;
        }

        void addReading(int view, int evening, int itsWeather) {
            seenView[readings] = view;
            seenEvening[readings] = evening;
            seenWeather[readings] = itsWeather;
            readings++;
        }

        void remember() {
            if (undos >= UNDOS) {
                moveOldestToEnd();
                undos = UNDOS - 1;
            }
            past[undos].copyFrom(book);
            undos++;
        }

        /** The oldest Book is written over next, so none has to be made. */
        private void moveOldestToEnd() {
            Book oldest = past[0];
            for (int i = 1; i < UNDOS; i++) {
                past[i - 1] = past[i];
            }
            past[UNDOS - 1] = oldest;
        }

        void goBack() {
            undos--;
            book.copyFrom(past[undos]);
        }

        int showing(int view, int evening) {
            return kinds[kind[view]].showing(weather[view], evening);
        }

        int fee(int view) {
            return feeAt(view, price[view]);
        }

        int feeAt(int view, int itsPrice) {
            return kinds[kind[view]].fee(itsPrice);
        }

        boolean fits(int view, int itsWall) {
            return kinds[kind[view]].fits(size[view], itsWall);
        }

        boolean mayLet(int view, int renter) {
            return book.tenant[view] == NONE && book.viewHeldBy(renter) == NONE
                    && fits(view, wall[renter]) && fee(view) <= book.purse[renter];
        }

        int airNow(int one, int other) {
            int oneView = book.viewHeldBy(one);
            int otherView = book.viewHeldBy(other);
            return oneView == NONE || otherView == NONE ? NONE : airOf(oneView, otherView);
        }

        private int airOf(int oneView, int otherView) {
            int together = showing(oneView, book.evening) + showing(otherView, book.evening);
            return together % WEATHERS;
        }

        /**
         * 100 times how many, and 10 the one's VIEW and the other's: the least such number is the
         * fewest and, of like ones, the first. NONE.
         */
        int fewestForAir(int one, int air) {
            int other = one + 1;
            int oneHas = book.viewHeldBy(one);
            int otherHas = book.viewHeldBy(other);
            int least = NONE;
            for (int a = 0; a < views; a++) {
                for (int b = 0; b < views; b++) {
                    if (a == b || airOf(a, b) != air
                            || !fits(a, wall[one]) || !fits(b, wall[other])) {
                        continue;
                    }
                    int changes = (a == oneHas ? 0 : 1) + (b == otherHas ? 0 : 1);
                    int told = 100 * changes + 10 * a + b;
                    least = least == NONE ? told : Math.min(least, told);
                }
            }
            return least;
        }

        long digestFrom(long h) {
            for (int v = 0; v < views; v++) {
                h = 31 * h + kind[v];
                h = 31 * h + size[v];
                h = 31 * h + price[v];
                h = 31 * h + weather[v];
                h = 31 * h + book.tenant[v];
                h = 31 * h + things[v];
            }
            for (int r = 0; r < renters; r++) {
                h = 31 * h + wall[r];
                h = 31 * h + book.purse[r];
                h = 31 * h + want[r];
            }
            for (int i = 0; i < book.lettings; i++) {
                h = 31 * h + book.letView[i];
                h = 31 * h + book.letRenter[i];
                h = 31 * h + book.letEvening[i];
            }
            for (int i = 0; i < readings; i++) {
                h = 31 * h + seenView[i];
                h = 31 * h + seenEvening[i];
                h = 31 * h + seenWeather[i];
            }
            return h;
        }
    }

    /**
     * BEST and AS THEY COME. A number told by it is SUITED times how many are suited, and the
     * money, which six fees can not bring up to SUITED: so the greater of two is the better.
     */
    private static final class Chooser {
        static final int EVERYONE = (1 << MOST) - 1;
        private static final int SUITED = 10000;
        private static final int ROWS = 1 << MOST;

        private int views;
        private int renters;
        /** By RENTER: the VIEWS that suit, as bits. */
        private final int[] suiting = new int[MOST];
        private final int[] fee = new int[MOST];
        private final int[] shown = new int[MOST];
        /** By RENTER and free VIEWS (bits): the best for this RENTER and all behind. */
        private final int[][] most = new int[MOST + 1][ROWS];
        /** By RENTER who has the VIEW whose price is sought: the best, but for its fee. */
        private final int[] having = new int[MOST];

        static int suitedIn(int told) {
            return told / SUITED;
        }

        static int moneyIn(int told) {
            return told % SUITED;
        }

        /** Who suits whom is looked at once, since the searches ask for it again and again. */
        void open(Shop shop, int evening) {
            views = shop.views;
            renters = 0;
            for (int v = 0; v < views; v++) {
                fee[v] = shop.fee(v);
                shown[v] = shop.showing(v, evening);
            }
            for (int r = 0; r < shop.renters; r++) {
                addRenter(shop, shop.wall[r], shop.book.purse[r], shop.want[r]);
            }
        }

        void addRenter(Shop shop, int wall, int purse, int want) {
            if (renters >= MOST) {
                return;
            }
            int bits = 0;
            for (int v = 0; v < views; v++) {
                if (fee[v] <= purse && suitsAtAnyPrice(shop, v, wall, want)) {
                    bits |= 1 << v;
                }
            }
            suiting[renters] = bits;
            renters++;
        }

        private boolean suitsAtAnyPrice(Shop shop, int view, int wall, int want) {
            return shop.fits(view, wall) && (want == ANY || want == shown[view]);
        }

        boolean isSuited(int view, int renter) {
            return (suiting[renter] >> view & 1) == 1;
        }

        int solve() {
            int all = (1 << views) - 1;
            Arrays.fill(most[renters], 0);
            for (int r = renters - 1; r >= 0; r--) {
                for (int free = 0; free <= all; free++) {
                    most[r][free] = mostFor(r, free);
                }
            }
            return most[0][all];
        }

        private int mostFor(int r, int free) {
            int[] behind = most[r + 1];
            int told = behind[free];
            int may = suiting[r] & free;
            for (int v = 0; v < views; v++) {
                if ((may >> v & 1) == 1) {
                    told = Math.max(told, SUITED + fee[v] + behind[free ^ 1 << v]);
                }
            }
            return told;
        }

        /** Of the row that solve() has found; each RENTER ahead takes the first that loses nothing. */
        int viewInBest(int renter) {
            int free = (1 << views) - 1;
            int view = NONE;
            for (int r = 0; r <= renter && r < renters; r++) {
                view = firstBest(r, free);
                if (view != NONE) {
                    free ^= 1 << view;
                }
            }
            return view;
        }

        private int firstBest(int r, int free) {
            int[] behind = most[r + 1];
            int told = most[r][free];
            if (behind[free] == told) {
                return NONE;
            }
            int may = suiting[r] & free;
            for (int v = 0; v < views; v++) {
                if ((may >> v & 1) == 1 && SUITED + fee[v] + behind[free ^ 1 << v] == told) {
                    return v;
                }
            }
            return NONE;
        }

        int asTheyCome(int coming) {
            int free = (1 << views) - 1;
            int told = 0;
            for (int r = 0; r < renters; r++) {
                int view = (coming >> r & 1) == 1 ? dearest(suiting[r] & free) : NONE;
                if (view != NONE) {
                    free ^= 1 << view;
                    told += SUITED + fee[view];
                }
            }
            return told;
        }

        private int dearest(int may) {
            int view = NONE;
            for (int v = 0; v < views; v++) {
                if ((may >> v & 1) == 1 && (view == NONE || fee[v] > fee[view])) {
                    view = v;
                }
            }
            return view;
        }

        /**
         * The VIEW goes to nobody, or to one RENTER: what the others can have besides has nothing
         * to do with its price, so it is sought once and not for each of a hundred prices.
         */
        int priceForMostMoney(Shop shop, int evening, int view) {
            open(shop, evening);
            for (int r = 0; r < renters; r++) {
                suiting[r] &= ~(1 << view);
            }
            int nobody = solve();
            for (int r = 0; r < renters; r++) {
                boolean may = suitsAtAnyPrice(shop, view, shop.wall[r], shop.want[r]);
                having[r] = may ? SUITED + solveWithout(r) : NONE;
            }
            int price = 0;
            int money = NONE;
            for (int p = 0; p <= LAST_PRICE; p++) {
                int here = moneyIn(mostAtFee(shop, shop.feeAt(view, p), nobody));
                if (here > money) {
                    money = here;
                    price = p;
                }
            }
            return price;
        }

        private int solveWithout(int renter) {
            int kept = suiting[renter];
            suiting[renter] = 0;
            int told = solve();
            suiting[renter] = kept;
            return told;
        }

        private int mostAtFee(Shop shop, int itsFee, int nobody) {
            int told = nobody;
            for (int r = 0; r < renters; r++) {
                if (having[r] != NONE && itsFee <= shop.book.purse[r]) {
                    told = Math.max(told, having[r] + itsFee);
                }
            }
            return told;
        }

        /** The mean money, times ODDS for each RENTER: a whole number. */
        long weighedMoney(int odds) {
            long sum = 0;
            for (int coming = 0; coming < 1 << renters; coming++) {
                long weight = 1;
                for (int r = 0; r < renters; r++) {
                    weight *= (coming >> r & 1) == 1 ? odds : ODDS - odds;
                }
                if (weight != 0) {
                    sum += weight * moneyIn(asTheyCome(coming));
                }
            }
            return sum;
        }

        int suitedByDraw(Shop shop, int seed, int evenings, int chance) {
            long x = seed;
            int suited = 0;
            for (int e = 0; e < evenings; e++) {
                open(shop, shop.book.evening + e);
                int coming = 0;
                for (int r = 0; r < renters; r++) {
                    x = (x * 1103515245L + 12345L) % 2147483648L;
                    if (x / 65536 % 100 < chance) {
                        coming |= 1 << r;
                    }
                }
                suited += suitedIn(asTheyCome(coming));
            }
            return suited;
        }
    }

    /** What a VIEW can be by its READINGS. */
    private static final class Guesser {
        int pairs;
        private final boolean[] fitting = new boolean[KINDS * WEATHERS];
        private final int[] alike = new int[WEATHERS];

        void guess(Shop shop, int view) {
            pairs = 0;
            for (int pair = 0; pair < KINDS * WEATHERS; pair++) {
                fitting[pair] = fitsReadings(shop, view, pair);
                if (fitting[pair]) {
                    pairs++;
                }
            }
        }

        private static int showing(Shop shop, int pair, int evening) {
            return shop.kinds[pair / WEATHERS].showing(pair % WEATHERS, evening);
        }

        private static boolean fitsReadings(Shop shop, int view, int pair) {
            for (int i = 0; i < shop.readings; i++) {
                if (shop.seenView[i] == view
                        && showing(shop, pair, shop.seenEvening[i]) != shop.seenWeather[i]) {
                    return false;
                }
            }
            return true;
        }

        int kindBits() {
            int bits = 0;
            for (int pair = 0; pair < KINDS * WEATHERS; pair++) {
                if (fitting[pair]) {
                    bits |= 1 << pair / WEATHERS;
                }
            }
            return bits;
        }

        int bestEvening(Shop shop) {
            if (pairs == 0) {
                return NONE;
            }
            int best = 0;
            int fewest = pairs + 1;
            for (int i = 0; i < NEXT_EVENINGS; i++) {
                int here = mostAlike(shop, shop.book.evening + i);
                if (here < fewest) {
                    fewest = here;
                    best = i;
                }
            }
            return shop.book.evening + best;
        }

        private int mostAlike(Shop shop, int evening) {
            Arrays.fill(alike, 0);
            int most = 0;
            for (int pair = 0; pair < KINDS * WEATHERS; pair++) {
                if (fitting[pair]) {
                    int weather = showing(shop, pair, evening);
                    alike[weather]++;
                    most = Math.max(most, alike[weather]);
                }
            }
            return most;
        }
    }

    /** THE TEXT, and how it is read, token by token. */
    private static final class Reader {
        private static final int END = 0, WORD = 1, NUMBER = 2, MARK = 3, OTHER = 4;
        private static final int FIGURES = 3;

        /** The first byte of the token that is met now, the text's length at its end: the FAULT. */
        int start;
        int length;
        private final byte[] text = new byte[TEXT];
        private int behind;
        private int sort;
        private final int[] told = new int[4];

        void add(byte c) {
            text[length] = c;
            length++;
        }

        /** How many ITEMS; NONE: there is a FAULT, and the shop is not to be used. */
        int readInto(Shop shop) {
            behind = 0;
            shop.empty();
            step();
            if (!isWord("shop")) {
                return NONE;
            }
            step();
            if (!passMark()) {
                return NONE;
            }
            int items = 1;
            while (sort != END && items <= TEXT) {
                if (!readItem(shop)) {
                    return NONE;
                }
                items++;
            }
            return items;
        }

        private boolean readItem(Shop shop) {
            if (isWord("view")) {
                return shop.views < MOST && readView(shop);
            }
            if (isWord("renter")) {
                return shop.renters < MOST && readRenter(shop);
            }
            return isWord("thing") && readThing(shop);
        }

        private boolean readView(Shop shop) {
            step();
            if (!passNumber(0, 0, KINDS - 1) || !passNumber(1, 1, LAST_SIZE)
                    || !passNumber(2, 0, LAST_PRICE) || !passNumber(3, 0, WEATHERS - 1)
                    || !passMark()) {
                return false;
            }
            shop.addView(told[0], told[1], told[2], told[3]);
            return true;
        }

        private boolean readRenter(Shop shop) {
            step();
            if (!passNumber(0, 1, LAST_SIZE) || !passNumber(1, 0, LAST_PURSE)
                    || !passNumber(2, 0, ANY) || !passMark()) {
                return false;
            }
            shop.addRenter(told[0], told[1], told[2]);
            return true;
        }

        private boolean readThing(Shop shop) {
            step();
            if (!passNumber(0, 0, shop.views - 1) || !passNumber(1, 0, THINGS - 1)
                    || !passMark()) {
                return false;
            }
            shop.things[told[0]] |= 1 << told[1];
            return true;
        }

        private boolean passMark() {
            if (sort != MARK) {
                return false;
            }
            step();
            return true;
        }

        private boolean passNumber(int place, int least, int most) {
            int number = numberMet();
            if (number == NONE || !within(number, least, most)) {
                return false;
            }
            told[place] = number;
            step();
            return true;
        }

        /** A number of too many figures is none, though its worth may be as told (0001). */
        private int numberMet() {
            if (sort != NUMBER || behind - start > FIGURES) {
                return NONE;
            }
            int number = 0;
            for (int at = start; at < behind; at++) {
                number = 10 * number + text[at] - '0';
            }
            return number;
        }

        private boolean isWord(String word) {
            if (sort != WORD || behind - start != word.length()) {
                return false;
            }
            for (int i = 0; i < word.length(); i++) {
                if (text[start + i] != word.charAt(i)) {
                    return false;
                }
            }
            return true;
        }

        private void step() {
            start = behind;
            while (start < length && text[start] == ' ') {
                start++;
            }
            sort = sortAt(start);
            behind = sort == END ? start : start + 1;
            if (sort == WORD || sort == NUMBER) {
                while (behind < length && sortAt(behind) == sort) {
                    behind++;
                }
            }
        }

        private int sortAt(int at) {
            if (at >= length) {
                return END;
            }
            byte here = text[at];
            if (here >= 'a' && here <= 'z') {
                return WORD;
            }
            if (here >= '0' && here <= '9') {
                return NUMBER;
            }
            return here == ';' ? MARK : OTHER;
        }
    }
}
