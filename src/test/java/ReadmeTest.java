import java.io.IOException;
import java.lang.reflect.Method;
import java.nio.file.Files;
import java.nio.file.Path;
import java.util.TreeSet;
import java.util.regex.Matcher;
import java.util.regex.Pattern;

/** README.md tells what is so: the calls of its example, every call by its name, its text. Run from the root. */
public final class ReadmeTest {
    private static final Pattern CALL = Pattern.compile("^x\\.(\\w+)\\(([^)]*)\\); +// (-?\\d+):", Pattern.MULTILINE);
    private static final Pattern TEXT = Pattern.compile("`(shop;[^`]*)`[^`]*`read` answers [^(]*\\((\\d+) here\\)");

    private static Object[] numbers(String told) {
        if (told.isEmpty()) {
            return new Object[0];
        }
        String[] all = told.split(", ");
        Object[] numbers = new Object[all.length];
        for (int i = 0; i < all.length; i++) {
            numbers[i] = Integer.valueOf(all[i]);
        }
        return numbers;
    }

    private static Method named(String name) {
        for (Method m : RentedViews.class.getMethods()) {
            if (m.getDeclaringClass() == RentedViews.class && m.getName().equals(name)) {
                return m;
            }
        }
        throw new IllegalStateException("README.md tells of a call " + name + " that is none");
    }

    private static void example(String readme) throws ReflectiveOperationException {
        RentedViews x = new RentedViews();
        Matcher call = CALL.matcher(readme);
        int lines = 0;
        while (call.find()) {
            lines++;
            Object got = named(call.group(1)).invoke(x, numbers(call.group(2)));
            Due.due("README.md", call.group(), ((Number) got).longValue(), Long.parseLong(call.group(3)));
        }
        Due.due("README.md", "lines of the example", lines, readme.split("\nx\\.").length - 1);
        Due.due("README.md", "has an example", lines > 0 ? 1 : 0, 1);
    }

    private static void text(String readme) {
        Matcher text = TEXT.matcher(readme);
        boolean found = text.find();
        Due.due("README.md", "has a text", found ? 1 : 0, 1);
        if (found) {
            Due.due("README.md", text.group(1), Due.read(new RentedViews(), text.group(1)),
                    Long.parseLong(text.group(2)));
        }
    }

    private static void names(String readme) {
        TreeSet<String> told = new TreeSet<>();
        Matcher row = Pattern.compile("^\\| (`[^|]*)\\|", Pattern.MULTILINE).matcher(readme);
        while (row.find()) {
            told.addAll(java.util.List.of(row.group(1).replace("`", "").trim().split(" ")));
        }
        TreeSet<String> due = new TreeSet<>();
        for (Method m : RentedViews.class.getMethods()) {
            if (m.getDeclaringClass() == RentedViews.class) {
                due.add(m.getName());
            }
        }
        Due.due("README.md", "calls " + told + " against " + due, told.equals(due) ? 1 : 0, 1);
    }

    public static void main(String[] args) throws IOException, ReflectiveOperationException {
        String readme = Files.readString(Path.of("README.md"));
        example(readme);
        text(readme);
        names(readme);
        Due.end();
    }
}
