import com.sun.source.tree.CompilationUnitTree;
import com.sun.source.tree.MethodInvocationTree;
import com.sun.source.tree.MethodTree;
import com.sun.source.tree.NewClassTree;
import com.sun.source.util.JavacTask;
import com.sun.source.util.TreePathScanner;
import com.sun.source.util.Trees;
import java.io.IOException;
import java.nio.file.Path;
import java.util.ArrayList;
import java.util.HashMap;
import java.util.LinkedHashMap;
import java.util.LinkedHashSet;
import java.util.List;
import java.util.Map;
import java.util.Set;
import javax.lang.model.element.Element;
import javax.lang.model.element.ExecutableElement;
import javax.lang.model.element.Modifier;
import javax.tools.JavaCompiler;
import javax.tools.StandardJavaFileManager;
import javax.tools.ToolProvider;

/** Rules 8 and 11 of ../shared/LANGUAGE.md: which methods of the class call which, and how deep calls go. */
public final class DepthTest {
    private static final int MOST_DEEP = 8;

    private static final Map<Element, Set<Element>> CALLS = new LinkedHashMap<>();
    private static final Map<Element, List<Element>> DEEPEST = new HashMap<>();

    public static void main(String[] args) throws IOException {
        readCalls(Path.of("src/main/java/PairSorts.java"));
        Due.holds(CALLS.size() > 29, "the calls of the class were not found");
        List<Element> deepest = List.of();
        for (Element method : CALLS.keySet()) {
            List<Element> chain = chain(method, new ArrayList<>());
            String told = method + " goes " + chain.size() + " deep: " + chain;
            Due.holds(chain.size() <= MOST_DEEP, told);
            deepest = chain.size() > deepest.size() ? chain : deepest;
            Due.holds(!callsItself(method) || method.getModifiers().contains(Modifier.PRIVATE),
                    method + " calls itself and is not private");
        }
        System.out.println("the deepest calls: " + deepest);
        Due.end();
    }

    private static boolean callsItself(Element method) {
        return CALLS.get(method).contains(method);
    }

    /** The longest chain of calls that begins with a method; one that calls itself counts once. */
    private static List<Element> chain(Element method, List<Element> open) {
        if (open.contains(method)) {
            Due.holds(false, "methods call one another: " + open);
            return List.of();
        }
        if (DEEPEST.containsKey(method)) {
            return DEEPEST.get(method);
        }
        open.add(method);
        List<Element> best = List.of();
        for (Element called : CALLS.get(method)) {
            List<Element> next = called == method ? List.of() : chain(called, open);
            best = next.size() > best.size() ? next : best;
        }
        open.remove(method);
        List<Element> whole = new ArrayList<>(List.of(method));
        whole.addAll(best);
        DEEPEST.put(method, whole);
        return whole;
    }

    private static void readCalls(Path source) throws IOException {
        JavaCompiler compiler = ToolProvider.getSystemJavaCompiler();
        try (StandardJavaFileManager files = compiler.getStandardFileManager(null, null, null)) {
            List<String> options = List.of("--release", "17", "-proc:none");
            JavacTask task = (JavacTask) compiler.getTask(null, files, null, options, null,
                    files.getJavaFileObjects(source));
            Iterable<? extends CompilationUnitTree> units = task.parse();
            task.analyze();
            Trees trees = Trees.instance(task);
            for (CompilationUnitTree unit : units) {
                new Reader(trees).scan(unit, null);
            }
        }
        // what the library does is not the class's own
        CALLS.values().forEach(called -> called.retainAll(CALLS.keySet()));
    }

    private static final class Reader extends TreePathScanner<Void, Void> {
        private final Trees trees;
        private Element method;

        Reader(Trees trees) {
            this.trees = trees;
        }

        @Override
        public Void visitMethod(MethodTree tree, Void nothing) {
            method = trees.getElement(getCurrentPath());
            CALLS.put(method, new LinkedHashSet<>());
            super.visitMethod(tree, nothing);
            method = null;
            return null;
        }

        @Override
        public Void visitMethodInvocation(MethodInvocationTree tree, Void nothing) {
            note();
            return super.visitMethodInvocation(tree, nothing);
        }

        @Override
        public Void visitNewClass(NewClassTree tree, Void nothing) {
            note();
            return super.visitNewClass(tree, nothing);
        }

        private void note() {
            if (method != null && trees.getElement(getCurrentPath()) instanceof ExecutableElement called) {
                CALLS.get(method).add(called);
            }
        }
    }
}
