import com.sun.source.tree.CompilationUnitTree;
import com.sun.source.tree.MethodInvocationTree;
import com.sun.source.tree.MethodTree;
import com.sun.source.util.JavacTask;
import com.sun.source.util.TreePathScanner;
import com.sun.source.util.Trees;
import java.io.File;
import java.util.ArrayList;
import java.util.HashSet;
import java.util.LinkedHashMap;
import java.util.LinkedHashSet;
import java.util.List;
import java.util.Map;
import java.util.Set;
import java.util.TreeSet;
import javax.lang.model.element.Element;
import javax.tools.JavaCompiler;
import javax.tools.StandardJavaFileManager;
import javax.tools.ToolProvider;

/** Rules 8 and 11 of LANGUAGE.md: which methods call which, how deep that goes, and what calls itself. */
public final class CallsTest {
    private static final int DEEPEST = 8, MOST_PARAMETERS = 7;
    /** These carry their depth as an argument; another one has to be looked at before it is written here. */
    private static final Set<String> RECURSIVE = Set.of("sendFrom", "playFrom", "answer", "run");

    private static final Map<Element, Set<Element>> CALLED = new LinkedHashMap<>();
    private static final Map<Element, Set<Element>> REACHED = new LinkedHashMap<>();

    public static void main(String[] args) throws Exception {
        Check.part("how calls go");
        readCalls(args.length > 0 ? args[0] : "src/main/java/JudgeHalves.java");
        for (Element method : CALLED.keySet()) {
            REACHED.put(method, reachedFrom(method));
        }
        Set<String> recursive = new TreeSet<>();
        for (Element method : CALLED.keySet()) {
            List<String> chain = deepestFrom(method);
            Check.holds(chain + " is eight deep at most", chain.size() <= DEEPEST);
            if (REACHED.get(method).contains(method)) {
                recursive.add(method.getSimpleName().toString());
            }
        }
        Check.holds("what calls itself is known: " + recursive, recursive.equals(new TreeSet<>(RECURSIVE)));
        Check.end();
    }

    private static void readCalls(String source) throws Exception {
        JavaCompiler compiler = ToolProvider.getSystemJavaCompiler();
        try (StandardJavaFileManager files = compiler.getStandardFileManager(null, null, null)) {
            JavacTask task = (JavacTask) compiler.getTask(null, files, null, List.of("-proc:none"), null,
                files.getJavaFileObjects(new File(source)));
            Iterable<? extends CompilationUnitTree> units = task.parse();
            task.analyze();
            for (CompilationUnitTree unit : units) {
                new Reader(Trees.instance(task)).scan(unit, null);
            }
        }
        Check.holds("methods were found", CALLED.size() > 40);
    }

    private static final class Reader extends TreePathScanner<Void, Element> {
        private final Trees trees;

        Reader(Trees trees) {
            this.trees = trees;
        }

        @Override public Void visitMethod(MethodTree t, Element outer) {
            Element method = trees.getElement(getCurrentPath());
            CALLED.computeIfAbsent(method, m -> new LinkedHashSet<>());
            Check.holds(t.getName() + " takes seven parameters at most", t.getParameters().size() <= MOST_PARAMETERS);
            return super.visitMethod(t, method);
        }

        @Override public Void visitMethodInvocation(MethodInvocationTree t, Element method) {
            if (method != null) {
                CALLED.get(method).add(trees.getElement(getCurrentPath()));
            }
            return super.visitMethodInvocation(t, method);
        }
    }

    private static Set<Element> called(Element method) {
        return CALLED.getOrDefault(method, Set.of());
    }

    private static Set<Element> reachedFrom(Element method) {
        Set<Element> reached = new HashSet<>();
        List<Element> open = new ArrayList<>(called(method));
        while (!open.isEmpty()) {
            Element next = open.remove(open.size() - 1);
            if (reached.add(next)) {
                open.addAll(called(next));
            }
        }
        return reached;
    }

    /** The longest way down among the file's own methods; those that call one another stand in it once each. */
    private static List<String> deepestFrom(Element method) {
        Set<Element> circle = new LinkedHashSet<>(List.of(method));
        for (Element other : CALLED.keySet()) {
            if (REACHED.get(method).contains(other) && REACHED.get(other).contains(method)) {
                circle.add(other);
            }
        }
        List<String> longest = List.of();
        for (Element one : circle) {
            for (Element next : called(one)) {
                if (CALLED.containsKey(next) && !circle.contains(next)) {
                    List<String> chain = deepestFrom(next);
                    longest = chain.size() > longest.size() ? chain : longest;
                }
            }
        }
        List<String> whole = new ArrayList<>();
        circle.forEach(one -> whole.add(one.getSimpleName().toString()));
        whole.addAll(longest);
        return whole;
    }
}
