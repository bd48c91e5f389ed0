import java.util.TreeSet;

/** Runs the tests of the boundary cases, and sees that each promise has some. */
public final class EdgesTest {
    public static void main(String[] args) throws IllegalAccessException {
        Class<?>[] all = {ShopEdges.class, TextEdges.class, EveningEdges.class, BestEdges.class,
            SeenEdges.class, StateEdges.class};
        TreeSet<Integer> promises = new TreeSet<>();
        for (Class<?> edges : all) {
            Edges.run(edges, promises);
        }
        for (int promise = 1; promise <= 35; promise++) {
            Due.due(promise, "has tests of its boundary cases", promises.contains(promise) ? 1 : 0, 1);
        }
        Due.end();
    }
}
