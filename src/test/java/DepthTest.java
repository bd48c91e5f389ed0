import com.sun.source.tree.CompilationUnitTree;
import com.sun.source.tree.MethodInvocationTree;
import com.sun.source.tree.MethodTree;
import com.sun.source.tree.NewArrayTree;
import com.sun.source.tree.NewClassTree;
import com.sun.source.util.JavacTask;
import com.sun.source.util.TreePathScanner;
import com.sun.source.util.Trees;
import java.io.File;
import java.io.IOException;
import java.util.ArrayDeque;
import java.util.Deque;
import java.util.HashSet;
import java.util.LinkedHashMap;
import java.util.List;
import java.util.Map;
import java.util.Set;
import java.util.TreeSet;
import javax.lang.model.element.ExecutableElement;
import javax.lang.model.element.Modifier;
import javax.lang.model.element.TypeElement;
import javax.lang.model.util.Elements;
import javax.tools.JavaCompiler;
import javax.tools.StandardJavaFileManager;
import javax.tools.ToolProvider;

/**
 * Rules 8, 11 and 12 of LANGUAGE.md, as the compiler sees the source: which method calls which, and
 * where objects are made. Run from the project's root.
 */
public final class DepthTest {
    private static final int DEEPEST = 8;

    /** By each method: those that it calls. */
    private final Map<ExecutableElement, Set<ExecutableElement>> calls = new LinkedHashMap<>();
    /** The same, where one that overrides the method may be called in its place: not so by super. */
    private final Map<ExecutableElement, Set<ExecutableElement>> open = new LinkedHashMap<>();
    private final TreeSet<String> makers = new TreeSet<>();
    private final Deque<ExecutableElement> under = new ArrayDeque<>();

    private final class Scanner extends TreePathScanner<Void, Void> {
        private final Trees trees;
        private ExecutableElement in = null;

        Scanner(Trees trees) {
            this.trees = trees;
        }

        @Override
        public Void visitMethod(MethodTree tree, Void none) {
            in = (ExecutableElement) trees.getElement(getCurrentPath());
            calls.putIfAbsent(in, new HashSet<>());
            super.visitMethod(tree, none);
            in = null;
            return none;
        }

        @Override
        public Void visitMethodInvocation(MethodInvocationTree tree, Void none) {
            if (in != null) {
                boolean bySuper = tree.getMethodSelect().toString().startsWith("super");
                Map<ExecutableElement, Set<ExecutableElement>> where = bySuper ? calls : open;
                where.computeIfAbsent(in, m -> new HashSet<>())
                        .add((ExecutableElement) trees.getElement(getCurrentPath()));
            }
            return super.visitMethodInvocation(tree, none);
        }

        @Override
        public Void visitNewClass(NewClassTree tree, Void none) {
            made();
            if (in != null) {
                calls.get(in).add((ExecutableElement) trees.getElement(getCurrentPath()));
            }
            return super.visitNewClass(tree, none);
        }

        @Override
        public Void visitNewArray(NewArrayTree tree, Void none) {
            made();
            return super.visitNewArray(tree, none);
        }

        private void made() {
            if (in != null && !in.getSimpleName().contentEquals("<init>")) {
                makers.add(in.getEnclosingElement().getSimpleName() + "." + in.getSimpleName());
            }
        }
    }

    private void addOverriding(Elements elements) {
        open.forEach((from, called) -> {
            calls.get(from).addAll(called);
            for (ExecutableElement one : called) {
                for (ExecutableElement other : calls.keySet()) {
                    if (elements.overrides(other, one, (TypeElement) other.getEnclosingElement())) {
                        calls.get(from).add(other);
                    }
                }
            }
        });
    }

    private int depth(ExecutableElement method) {
        if (under.contains(method)) {
            Due.say("rule 8: " + method + " calls itself by " + under);
            return 0;
        }
        int deepest = 0;
        under.push(method);
        for (ExecutableElement called : calls.getOrDefault(method, Set.of())) {
            if (calls.containsKey(called)) {
                deepest = Math.max(deepest, depth(called));
            }
        }
        under.pop();
        return deepest + 1;
    }

    private void scan() throws IOException {
        JavaCompiler compiler = ToolProvider.getSystemJavaCompiler();
        try (StandardJavaFileManager files = compiler.getStandardFileManager(null, null, null)) {
            JavacTask task = (JavacTask) compiler.getTask(null, files, null, List.of("-proc:none"), null,
                    files.getJavaFileObjects(new File("src/main/java/RentedViews.java")));
            Iterable<? extends CompilationUnitTree> units = task.parse();
            task.analyze();
            for (CompilationUnitTree unit : units) {
                new Scanner(Trees.instance(task)).scan(unit, null);
            }
            addOverriding(task.getElements());
        }
    }

    public static void main(String[] args) throws IOException {
        DepthTest test = new DepthTest();
        test.scan();
        for (ExecutableElement method : test.calls.keySet()) {
            if (method.getModifiers().contains(Modifier.PUBLIC)) {
                Due.due("rule 11", "calls from " + method, Math.max(test.depth(method), DEEPEST), DEEPEST);
            }
        }
        Due.due("rule 12", "made in " + test.makers, test.makers.equals(Set.of("RentedViews.image")) ? 1 : 0, 1);
        Due.end();
    }
}
