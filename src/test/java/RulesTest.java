import java.io.IOException;
import java.lang.reflect.Constructor;
import java.lang.reflect.Field;
import java.lang.reflect.Method;
import java.lang.reflect.Modifier;
import java.nio.file.Files;
import java.nio.file.Path;
import java.util.ArrayList;
import java.util.List;
import java.util.Set;
import java.util.regex.Matcher;
import java.util.regex.Pattern;

/** What of LANGUAGE.md can be seen in the source and by reflection. Run from the project's root. */
public final class RulesTest {
    private static final Set<String> LIBRARY = Set.of("Arrays.fill", "System.arraycopy",
            "Math.floorMod", "Math.max", "Math.min");
    private static final Set<Class<?>> NUMBERS = Set.of(int.class, long.class, byte.class, boolean.class);

    private static void none(int rule, String what, String pattern, String code) {
        Matcher m = Pattern.compile(pattern).matcher(code);
        while (m.find()) {
            Due.say("rule " + rule + ": " + what + ": " + m.group());
        }
    }

    private static void words(String code) {
        none(6, "a word", "\\b(throw|throws|try|catch|finally|synchronized|assert)\\b", code);
        none(2, "a lambda or method reference", "->|::", code);
        none(4, "an annotation", "@\\w+", code);
        none(6, "of Object", "\\b(equals|hashCode|toString)\\(", code);
        none(5, "a static block", "static\\s*\\{", code);
        none(4, "an import", "import (?!java\\.util\\.Arrays;).*", code);
        Matcher m = Pattern.compile("\\b(Arrays|System|Math|Integer|Long|String)\\.\\w+").matcher(code);
        while (m.find()) {
            if (!LIBRARY.contains(m.group())) {
                Due.say("rule 4: " + m.group());
            }
        }
    }

    /** Methods are told by how far they are set in, so the source keeps to four blanks a level. */
    private static void lengths(List<String> lines) {
        int from = -1;
        for (int i = 0; i < lines.size(); i++) {
            String line = lines.get(i);
            if (line.matches("( {4}| {8})[a-zA-Z].*\\{") && !line.contains(" class ")) {
                from = i;
            } else if (line.matches(" {4}\\}| {8}\\}") && from >= 0) {
                Due.due("rule 11", "lines from " + (from + 1), Math.max(i - from + 1, 60), 60);
                from = -1;
            }
        }
    }

    private static void classes() {
        List<Class<?>> all = new ArrayList<>(List.of(RentedViews.class.getDeclaredClasses()));
        for (Class<?> inner : all) {
            Due.due("rule 2", inner + " is static", inner.getModifiers() & Modifier.STATIC, Modifier.STATIC);
        }
        all.add(RentedViews.class);
        Due.due("rule 11", "classes", Math.max(all.size(), 12), 12);
        for (Class<?> c : all) {
            int fields = 0;
            for (Field f : c.getDeclaredFields()) {
                if (Modifier.isStatic(f.getModifiers())) {
                    Due.due("rule 5", f + " is final", f.getModifiers() & Modifier.FINAL, Modifier.FINAL);
                    Due.due("rule 5", f + " is a constant", NUMBERS.contains(f.getType()) ? 1 : 0, 1);
                } else {
                    fields++;
                }
            }
            Due.due("rule 11", "fields of " + c, Math.max(fields, 20), 20);
            for (Method m : c.getDeclaredMethods()) {
                Due.due("rule 11", "parameters of " + m, Math.max(m.getParameterCount(), 7), 7);
            }
            for (Constructor<?> k : c.getDeclaredConstructors()) {
                Due.due("rule 11", "parameters of " + k, Math.max(k.getParameterCount(), 7), 7);
            }
        }
    }

    public static void main(String[] args) throws IOException {
        Path path = Path.of("src/main/java/RentedViews.java");
        String source = Files.readString(path);
        Due.due("rule 3", "signs of ASCII alone", source.chars().allMatch(c -> c == '\n' || c >= 32 && c < 127) ? 1 : 0, 1);
        words(source.replaceAll("(?s)/\\*.*?\\*/|//[^\n]*", "").replaceAll("\"[^\"\n]*\"", "\"\""));
        lengths(Files.readAllLines(path));
        classes();
        Due.end();
    }
}
