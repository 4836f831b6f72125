import com.sun.source.tree.MethodInvocationTree;
import com.sun.source.tree.MethodTree;
import com.sun.source.tree.NewClassTree;
import com.sun.source.util.JavacTask;
import com.sun.source.util.TreePathScanner;
import com.sun.source.util.Trees;
import java.io.IOException;
import java.nio.file.Path;
import java.util.HashSet;
import java.util.List;
import java.util.Map;
import java.util.Set;
import java.util.TreeMap;
import java.util.TreeSet;
import javax.lang.model.element.Element;
import javax.tools.JavaCompiler;
import javax.tools.StandardJavaFileManager;
import javax.tools.ToolProvider;

/** Rules 4, 8 and 11 of LANGUAGE.md, by the calls that the compiler finds: which go out to the library, how deep they go. */
public final class CallsTest {
    private static final int DEEPEST = 8;
    private static final String OWN = "NightForecast";
    private static final Set<String> LIBRARY = Set.of(
        "java.lang.Object.Object", "java.lang.String.charAt", "java.lang.Integer.bitCount", "java.lang.Math.max",
        "java.lang.Math.min", "java.lang.Math.floorDiv", "java.lang.System.arraycopy", "java.util.Arrays.fill");
    // Recursion is for the language's nesting alone, where the depth is carried along.
    private static final Set<String> RECURSIVE = Set.of("test", "both", "fact", "sum", "product", "factor", "choice");

    private final Check c = new Check("CallsTest");
    private final Map<String, Set<String>> calls = new TreeMap<>();

    public static void main(String[] args) throws IOException {
        CallsTest test = new CallsTest();
        test.findCalls(Path.of(args.length > 0 ? args[0] : "src/main/java/NightForecast.java"));
        test.looksOutside();
        test.callsItself();
        test.goesDeep();
        test.c.finish();
    }

    private void findCalls(Path source) throws IOException {
        JavaCompiler compiler = ToolProvider.getSystemJavaCompiler();
        try (StandardJavaFileManager files = compiler.getStandardFileManager(null, null, null)) {
            JavacTask task = (JavacTask) compiler.getTask(null, files, null, null, null, files.getJavaFileObjects(source));
            var units = task.parse();
            task.analyze();
            Trees trees = Trees.instance(task);
            units.forEach(unit -> new Scanner(trees).scan(unit, null));
        }
        c.due("methods were found", calls.size() > 100, true);
    }

    private final class Scanner extends TreePathScanner<Void, Void> {
        private final Trees trees;
        private String caller = "";

        Scanner(Trees trees) {
            this.trees = trees;
        }

        private String nameOf(Element element) {
            String name = element.getSimpleName().toString();
            String owner = element.getEnclosingElement().toString();
            return owner + "." + (name.equals("<init>") ? element.getEnclosingElement().getSimpleName() : name);
        }

        @Override
        public Void visitMethod(MethodTree method, Void none) {
            String outer = caller;
            caller = nameOf(trees.getElement(getCurrentPath()));
            calls.computeIfAbsent(caller, name -> new TreeSet<>());
            super.visitMethod(method, none);
            caller = outer;
            return null;
        }

        @Override
        public Void visitMethodInvocation(MethodInvocationTree call, Void none) {
            calls.computeIfAbsent(caller, name -> new TreeSet<>()).add(nameOf(trees.getElement(getCurrentPath())));
            return super.visitMethodInvocation(call, none);
        }

        @Override
        public Void visitNewClass(NewClassTree made, Void none) {
            calls.computeIfAbsent(caller, name -> new TreeSet<>()).add(nameOf(trees.getElement(getCurrentPath())));
            return super.visitNewClass(made, none);
        }
    }

    private Set<String> calledBy(String method) {
        return calls.getOrDefault(method, Set.of());
    }

    private Set<String> reachedFrom(String method) {
        Set<String> reached = new HashSet<>();
        List<String> open = List.copyOf(calledBy(method));
        while (!open.isEmpty()) {
            Set<String> further = new TreeSet<>();
            for (String name : open) {
                if (reached.add(name)) {
                    further.addAll(calledBy(name));
                }
            }
            open = List.copyOf(further);
        }
        return reached;
    }

    private void looksOutside() {
        calls.forEach((method, called) -> called.forEach(name ->
            c.due(method + " calls " + name, name.startsWith(OWN) || LIBRARY.contains(name), true)));
    }

    private void callsItself() {
        for (String method : calls.keySet()) {
            boolean recursive = reachedFrom(method).contains(method);
            boolean may = RECURSIVE.contains(method.substring(method.lastIndexOf('.') + 1));
            c.due(method + " calls itself", recursive && !may, false);
        }
    }

    private void goesDeep() {
        for (String method : calls.keySet()) {
            c.due(method + " goes at most eight deep", depthOf(method, new TreeMap<>()) <= DEEPEST, true);
        }
    }

    /** How many calls stand open at once, where methods that call one another count as one. */
    private int depthOf(String method, Map<String, Integer> known) {
        if (known.containsKey(method)) {
            return known.get(method);
        }
        Set<String> ring = new TreeSet<>(Set.of(method));
        for (String name : reachedFrom(method)) {
            if (reachedFrom(name).contains(method)) {
                ring.add(name);
            }
        }
        int deepest = 0;
        for (String member : ring) {
            for (String name : calledBy(member)) {
                deepest = ring.contains(name) ? deepest : Math.max(deepest, depthOf(name, known));
            }
        }
        known.put(method, deepest + 1);
        return deepest + 1;
    }
}
