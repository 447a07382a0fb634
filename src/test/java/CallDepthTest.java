import com.sun.source.tree.CompilationUnitTree;
import com.sun.source.tree.MethodInvocationTree;
import com.sun.source.tree.MethodTree;
import com.sun.source.tree.NewClassTree;
import com.sun.source.util.JavacTask;
import com.sun.source.util.TreePathScanner;
import com.sun.source.util.Trees;
import java.nio.file.Path;
import java.util.LinkedHashMap;
import java.util.LinkedHashSet;
import java.util.List;
import java.util.Map;
import java.util.Set;
import javax.lang.model.element.Element;
import javax.tools.JavaCompiler;
import javax.tools.StandardJavaFileManager;
import javax.tools.ToolProvider;

/** LANGUAGE.md, rule 11: calls go at most eight deep; the class needs no method that calls itself. */
public final class CallDepthTest {
    private static final Due due = new Due("CallDepthTest");
    private static final int DEEPEST = 8;

    /** Each method of the class, with those that it calls. */
    private final Map<Element, Set<Element>> calls = new LinkedHashMap<>();
    private final Map<Element, Integer> depths = new LinkedHashMap<>();
    private final Set<Element> open = new LinkedHashSet<>();

    public static void main(String[] args) throws Exception {
        CallDepthTest test = new CallDepthTest();
        test.collect(Path.of("src/main/java/StoryDecompile.java"));
        due.holds("methods are found", test.calls.size() > 17);
        for (Element method : test.calls.keySet()) {
            int depth = test.depthOf(method);
            due.holds(method + " opens " + depth + " methods at most", depth <= DEEPEST);
        }
        due.end();
    }

    private void collect(Path source) throws Exception {
        JavaCompiler compiler = ToolProvider.getSystemJavaCompiler();
        try (StandardJavaFileManager files = compiler.getStandardFileManager(null, null, null)) {
            JavacTask task = (JavacTask) compiler.getTask(null, files, null, List.of("-proc:none"), null,
                files.getJavaFileObjects(source));
            Iterable<? extends CompilationUnitTree> units = task.parse();
            task.analyze();
            for (CompilationUnitTree unit : units) {
                new Callers(Trees.instance(task)).scan(unit, null);
            }
        }
    }

    /** How many methods are open at once when this one is called, with itself and the library's. */
    private int depthOf(Element method) {
        if (depths.containsKey(method)) {
            return depths.get(method);
        }
        open.add(method);
        int deepest = 0;
        for (Element called : calls.getOrDefault(method, Set.of())) {
            boolean calledAlready = open.contains(called);
            due.holds(called + " does not call itself by " + method, !calledAlready);
            deepest = calledAlready ? deepest : Math.max(deepest, depthOf(called));
        }
        open.remove(method);
        depths.put(method, deepest + 1);
        return deepest + 1;
    }

    private final class Callers extends TreePathScanner<Void, Element> {
        private final Trees trees;

        Callers(Trees trees) {
            this.trees = trees;
        }

        @Override
        public Void visitMethod(MethodTree method, Element outer) {
            Element here = trees.getElement(getCurrentPath());
            calls.putIfAbsent(here, new LinkedHashSet<>());
            return super.visitMethod(method, here);
        }

        @Override
        public Void visitMethodInvocation(MethodInvocationTree call, Element caller) {
            note(caller);
            return super.visitMethodInvocation(call, caller);
        }

        @Override
        public Void visitNewClass(NewClassTree made, Element caller) {
            note(caller);
            return super.visitNewClass(made, caller);
        }

        private void note(Element caller) {
            if (caller != null) {
                calls.get(caller).add(trees.getElement(getCurrentPath()));
            }
        }
    }
}
