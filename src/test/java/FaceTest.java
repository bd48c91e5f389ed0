import java.lang.reflect.Field;
import java.lang.reflect.Member;
import java.lang.reflect.Method;
import java.lang.reflect.Modifier;
import java.util.Arrays;
import java.util.TreeSet;

/** The public face is the document's, and nothing besides. */
public final class FaceTest {
    private static final String[] METHODS = {
        "int shop()", "int view(int, int, int, int)", "int renter(int, int, int)",
        "int things(int, int)", "int type(int)", "int clear()", "int read()", "int let(int, int)",
        "int night()", "int undo()", "int of(int, int)", "int about(int, int)",
        "int shows(int, int)", "int suits(int, int, int)", "int best(int, int)", "int money(int)",
        "int come(int, int)", "int more(int, int, int, int)", "int changed(int, int)",
        "int air(int)", "int bring(int, int, int)", "int left(int, int, int)",
        "int reading(int, int, int)", "int forget()", "int is(int, int)", "int look(int)",
        "int odds(int)", "int drawn(int, int, int)", "long part(int)", "int image(int)",
        "int from(int)", "int status(int)", "int count(int)", "long digest()"
    };

    private static void same(String what, TreeSet<String> got, String... want) {
        TreeSet<String> due = new TreeSet<>(Arrays.asList(want));
        Due.due(1, what + " " + got + " against " + due, got.equals(due) ? 1 : 0, 1);
    }

    private static boolean seen(Member member) {
        return !Modifier.isPrivate(member.getModifiers());
    }

    public static void main(String[] args) {
        Class<?> face = RentedViews.class;
        Due.due(1, "public final", face.getModifiers(), Modifier.PUBLIC | Modifier.FINAL);
        Due.due(1, "constructors", face.getDeclaredConstructors().length, 1);
        Due.due(1, "public constructors", face.getConstructors().length, 1);
        Due.due(1, "its parameters", face.getConstructors()[0].getParameterCount(), 0);
        TreeSet<String> methods = new TreeSet<>();
        TreeSet<String> hidden = new TreeSet<>();
        TreeSet<String> names = new TreeSet<>();
        for (Method m : face.getDeclaredMethods()) {
            String types = Arrays.toString(m.getParameterTypes());
            String told = m.getReturnType() + " " + m.getName() + "("
                    + types.substring(1, types.length() - 1) + ")";
            if (seen(m)) {
                methods.add(told);
                names.add(m.getName());
            } else {
                hidden.add(m.getName());
            }
        }
        same("methods", methods, METHODS);
        hidden.retainAll(names);
        same("private methods with a public name", hidden);
        TreeSet<String> fields = new TreeSet<>();
        for (Field f : face.getDeclaredFields()) {
            if (seen(f)) {
                fields.add(Modifier.toString(f.getModifiers()) + " " + f.getType() + " " + f.getName());
            }
        }
        same("fields", fields, "public static final int NONE", "public static final int BAD",
                "public static final int NO", "public static final int FULL");
        Due.due(1, "NONE", RentedViews.NONE, -1);
        Due.due(1, "BAD", RentedViews.BAD, -2);
        Due.due(1, "NO", RentedViews.NO, -3);
        Due.due(1, "FULL", RentedViews.FULL, -4);
        Due.end();
    }
}
