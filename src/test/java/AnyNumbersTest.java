import java.lang.reflect.InvocationTargetException;
import java.lang.reflect.Method;
import java.lang.reflect.Modifier;
import java.util.ArrayList;
import java.util.Arrays;
import java.util.Comparator;
import java.util.List;
import java.util.Set;

/**
 * Every call, with numbers from a grid about all bounds, in shops from an empty one to a full one:
 * it does not throw, and answers as the Oracle does.
 */
public final class AnyNumbersTest {
    private static final int MIN = Integer.MIN_VALUE, MAX = Integer.MAX_VALUE;
    private static final int[] FINE = {MIN, MIN + 1, -32, -11, -10, -4, -3, -2, -1, 0, 1, 2, 3, 4, 5, 6, 7, 8, 9, 10,
        11, 30, 31, 32, 99, 100, 101, 127, 128, 255, 256, 999, 1000, 999999, 1000000, MAX - 1, MAX};
    private static final int[] COARSE = {MIN, -2, -1, 0, 1, 2, 5, 6, 7, 8, 9, 10, 99, 100, 999, 1000, MAX};
    private static final int[] FEW = {MIN, -1, 0, 1, 5, 6, 9, 10, 99, 100, MAX};
    /** These are slow in the Oracle, which looks through every row. */
    private static final Set<String> SLOW = Set.of("changed", "drawn");
    private static final Set<String> CHANGING = Set.of("view", "renter", "things", "reading", "let", "type", "from",
            "image", "odds");
    /** An object is used for 512 calls at most; the dearest shop below takes 302 of them, STATUS 3. */
    private static final int CALLS = 190;

    private final int shop;
    private RentedViews x;
    private Oracle o;
    private int calls;

    private AnyNumbersTest(int shop) {
        this.shop = shop;
        anew();
    }

    private void anew() {
        x = new RentedViews();
        o = new Oracle();
        calls = 0;
        switch (shop) {
            case 0: break;
            case 1: fill(2, 1); break;
            case 2: fill(3, 5); break;
            case 3: fill(6, 6); break;
            default: fill(6, 6); late();
        }
    }

    private void fill(int views, int renters) {
        for (int i = 0; i < views; i++) {
            x.view(5 - i, 9 - i, 7 * i, i);
            o.view(5 - i, 9 - i, 7 * i, i);
            x.things(i, 1 << i | 129);
            o.things(i, 1 << i | 129);
            x.reading(i, 3 * i, i);
            o.reading(i, 3 * i, i);
        }
        for (int i = 0; i < renters; i++) {
            x.renter(4 + i, 20 * i, i == 3 ? 6 : i);
            o.renter(4 + i, 20 * i, i == 3 ? 6 : i);
        }
        for (int i = 0; i < 13; i++) {
            x.let(i % views, i % renters);
            o.let(i % views, i % renters);
            x.night();
            o.night();
        }
        x.let(views - 1, 0);
        o.let(views - 1, 0);
        x.image(0);
        o.image(0);
    }

    /** Past evening 99, with a full text. */
    private void late() {
        for (int i = 0; i < 100; i++) {
            x.night();
            o.night();
        }
        for (int i = 0; i < 150; i++) {
            x.type(' ');
            o.type(' ');
        }
    }

    private void ask(Method told, Method model, Integer[] numbers) throws ReflectiveOperationException {
        String call = "shop " + shop + ": " + told.getName() + Arrays.toString(numbers);
        long due = ((Number) model.invoke(o, (Object[]) numbers)).longValue();
        try {
            Due.due("any numbers", call, ((Number) told.invoke(x, (Object[]) numbers)).longValue(), due);
        } catch (InvocationTargetException e) {
            Due.say(call + " threw " + e.getCause());
        }
        Due.due("any numbers", "digest() behind " + call, x.digest(), o.digest());
        calls += 2;
        if (CHANGING.contains(told.getName()) && due > -2 || calls > CALLS) {
            askStatus(call);
            anew();
        }
    }

    private void askStatus(String behind) {
        for (int what = 0; what < 3; what++) {
            Due.due("any numbers", "status(" + what + ") behind " + behind, x.status(what), o.status(what));
        }
    }

    private void askAll(Method told, Method model, int[] grid, List<Integer> numbers)
            throws ReflectiveOperationException {
        if (numbers.size() == told.getParameterCount()) {
            ask(told, model, numbers.toArray(new Integer[0]));
            return;
        }
        for (int n : grid) {
            numbers.add(n);
            askAll(told, model, grid, numbers);
            numbers.remove(numbers.size() - 1);
        }
    }

    private void go() throws ReflectiveOperationException {
        Method[] all = RentedViews.class.getDeclaredMethods();
        Arrays.sort(all, Comparator.comparing(Method::getName));
        for (Method told : all) {
            if (!Modifier.isPublic(told.getModifiers())) {
                continue;
            }
            int n = told.getParameterCount();
            int[] grid = n == 4 || SLOW.contains(told.getName()) ? FEW : n == 3 ? COARSE : FINE;
            Method model = Oracle.class.getDeclaredMethod(told.getName(), told.getParameterTypes());
            askAll(told, model, grid, new ArrayList<>());
            askStatus(told.getName());
            anew();
        }
    }

    public static void main(String[] args) throws ReflectiveOperationException {
        for (int shop = 0; shop < 5; shop++) {
            new AnyNumbersTest(shop).go();
        }
        Due.end();
    }
}
