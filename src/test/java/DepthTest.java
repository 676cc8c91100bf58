import com.sun.source.tree.CompilationUnitTree;
import com.sun.source.tree.MethodInvocationTree;
import com.sun.source.tree.MethodTree;
import com.sun.source.tree.NewClassTree;
import com.sun.source.util.JavacTask;
import com.sun.source.util.TreePathScanner;
import com.sun.source.util.Trees;
import java.nio.file.Path;
import java.util.ArrayList;
import java.util.HashMap;
import java.util.LinkedHashMap;
import java.util.LinkedHashSet;
import java.util.List;
import java.util.Map;
import java.util.Set;
import javax.lang.model.element.Element;
import javax.lang.model.element.ExecutableElement;
import javax.tools.JavaCompiler;
import javax.tools.StandardJavaFileManager;
import javax.tools.ToolProvider;

/**
 * Rules 8 and 11 of LANGUAGE.md: how deep calls go. Methods that come back to themselves count as one, whatever way they
 * take; each of them must carry how deep it is as an argument.
 */
public final class DepthTest {
    private static final int DEEPEST = 8;
    private final Map<Element, Set<Element>> calls = new LinkedHashMap<>();
    private final Map<Element, Set<Element>> reached = new HashMap<>();
    private final Map<Element, List<Element>> longest = new HashMap<>();

    public static void main(String[] args) throws Exception {
        Hand.at("how deep calls go");
        new DepthTest().check();
        Hand.end();
    }

    private void check() throws Exception {
        readCalls();
        Hand.due("methods are found", calls.size() > 100, true);
        for (Element method : calls.keySet()) {
            if (comesBack(method, method)) {
                Hand.due(method + " carries its depth", carriesDepth(method), true);
            }
        }
        for (Element method : calls.keySet()) {
            List<Element> chain = chainFrom(method);
            Hand.due(chain + " is " + chain.size() + " deep", chain.size() <= DEEPEST, true);
        }
    }

    private static boolean carriesDepth(Element method) {
        return method instanceof ExecutableElement e
            && e.getParameters().stream().anyMatch(p -> p.getSimpleName().contentEquals("open"));
    }

    private void readCalls() throws Exception {
        JavaCompiler compiler = ToolProvider.getSystemJavaCompiler();
        try (StandardJavaFileManager files = compiler.getStandardFileManager(null, null, null)) {
            JavacTask task = (JavacTask) compiler.getTask(null, files, null, List.of("-proc:none"), null,
                files.getJavaFileObjects(Path.of("src/main/java/WildHunt.java")));
            Iterable<? extends CompilationUnitTree> units = task.parse();
            task.analyze();
            for (CompilationUnitTree unit : units) {
                new Scanner(Trees.instance(task)).scan(unit, null);
            }
        }
        for (Set<Element> called : calls.values()) {
            called.retainAll(calls.keySet());
        }
        for (Element method : calls.keySet()) {
            Set<Element> found = new LinkedHashSet<>();
            reach(method, found);
            reached.put(method, found);
        }
    }

    private void reach(Element from, Set<Element> found) {
        for (Element next : calls.get(from)) {
            if (found.add(next)) {
                reach(next, found);
            }
        }
    }

    private boolean comesBack(Element one, Element other) {
        return reached.get(one).contains(other) && reached.get(other).contains(one);
    }

    private List<Element> chainFrom(Element method) {
        List<Element> known = longest.get(method);
        if (known != null) {
            return known;
        }
        List<Element> best = List.of();
        for (Element one : calls.keySet()) {
            boolean together = one == method || comesBack(one, method);
            for (Element next : together ? calls.get(one) : Set.<Element>of()) {
                if (next != method && !comesBack(next, method) && chainFrom(next).size() > best.size()) {
                    best = chainFrom(next);
                }
            }
        }
        List<Element> chain = new ArrayList<>(List.of(method));
        chain.addAll(best);
        longest.put(method, chain);
        return chain;
    }

    private final class Scanner extends TreePathScanner<Void, Void> {
        private final Trees trees;
        private Element inside;

        Scanner(Trees trees) {
            this.trees = trees;
        }

        private void called() {
            if (inside != null) {
                calls.get(inside).add(trees.getElement(getCurrentPath()));
            }
        }

        @Override
        public Void visitMethod(MethodTree tree, Void none) {
            inside = trees.getElement(getCurrentPath());
            calls.put(inside, new LinkedHashSet<>());
            super.visitMethod(tree, none);
            inside = null;
            return null;
        }

        @Override
        public Void visitMethodInvocation(MethodInvocationTree tree, Void none) {
            called();
            return super.visitMethodInvocation(tree, none);
        }

        @Override
        public Void visitNewClass(NewClassTree tree, Void none) {
            called();
            return super.visitNewClass(tree, none);
        }
    }
}
