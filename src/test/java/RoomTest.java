import java.lang.reflect.Array;
import java.lang.reflect.Field;
import java.lang.reflect.Modifier;
import java.util.ArrayDeque;
import java.util.Collections;
import java.util.Deque;
import java.util.IdentityHashMap;
import java.util.Set;

/**
 * How much room an object takes, in objects and arrays and in their fields and elements. DepthTest
 * sees that no call but image makes any: so a run takes what is counted here and no more.
 */
public final class RoomTest {
    private static final int OBJECTS = 400;
    private static final int ELEMENTS = 4000;

    private int objects = 0;
    private int elements = 0;
    private final Set<Object> seen = Collections.newSetFromMap(new IdentityHashMap<>());
    private final Deque<Object> waiting = new ArrayDeque<>();

    private RoomTest(RentedViews x) throws IllegalAccessException {
        meet(x);
        while (!waiting.isEmpty()) {
            Object one = waiting.pop();
            objects++;
            if (one.getClass().isArray()) {
                countElements(one);
            } else {
                countFields(one);
            }
        }
    }

    private void meet(Object one) {
        if (one != null && seen.add(one)) {
            waiting.push(one);
        }
    }

    private void countElements(Object array) {
        int length = Array.getLength(array);
        elements += length;
        for (int i = 0; i < length && !array.getClass().getComponentType().isPrimitive(); i++) {
            meet(Array.get(array, i));
        }
    }

    private void countFields(Object one) throws IllegalAccessException {
        for (Class<?> c = one.getClass(); c != Object.class; c = c.getSuperclass()) {
            for (Field f : c.getDeclaredFields()) {
                if (Modifier.isStatic(f.getModifiers())) {
                    continue;
                }
                elements++;
                f.setAccessible(true);
                if (!f.getType().isPrimitive()) {
                    meet(f.get(one));
                }
            }
        }
    }

    private static void few(String when, RoomTest room) {
        Due.due("room", "objects " + when, Math.max(room.objects, OBJECTS), OBJECTS);
        Due.due("room", "fields and elements " + when, Math.max(room.elements, ELEMENTS), ELEMENTS);
    }

    /** Every call that keeps something, again and again; 512 calls in all. */
    private static void use(RentedViews x) {
        for (int i = 0; i < 32; i++) {
            x.view(i % 6, 9, i, i % 6);
            x.renter(9, 999, 6);
            x.things(i % 6, 255);
            x.reading(i % 6, i, 0);
            x.let(i % 6, i % 6);
            x.night();
            x.odds(5);
            x.image(i % 2);
            x.from(i % 2);
            x.undo();
            x.clear();
            Due.type(x, "shop;");
        }
    }

    public static void main(String[] args) throws IllegalAccessException {
        RentedViews x = new RentedViews();
        few("at first", new RoomTest(x));
        x.image(0);
        x.image(1);
        RoomTest kept = new RoomTest(x);
        few("with both images kept", kept);
        RentedViews used = new RentedViews();
        use(used);
        RoomTest behind = new RoomTest(used);
        Due.due("room", "objects behind 512 calls", behind.objects, kept.objects);
        Due.due("room", "fields and elements behind 512 calls", behind.elements, kept.elements);
        System.out.println(kept.objects + " objects, " + kept.elements + " fields and elements");
        Due.end();
    }
}
