import com.sun.source.tree.ClassTree;
import com.sun.source.tree.MethodInvocationTree;
import com.sun.source.tree.MethodTree;
import com.sun.source.tree.NewClassTree;
import com.sun.source.tree.CompilationUnitTree;
import com.sun.source.util.JavacTask;
import com.sun.source.util.TreePathScanner;
import com.sun.source.util.Trees;
import java.io.IOException;
import java.nio.file.Path;
import java.util.ArrayDeque;
import java.util.ArrayList;
import java.util.Deque;
import java.util.LinkedHashMap;
import java.util.LinkedHashSet;
import java.util.List;
import java.util.Map;
import java.util.Set;
import java.util.TreeSet;
import javax.lang.model.element.Element;
import javax.lang.model.element.ExecutableElement;
import javax.lang.model.element.Modifier;
import javax.lang.model.element.TypeElement;
import javax.tools.JavaCompiler;
import javax.tools.StandardJavaFileManager;
import javax.tools.ToolProvider;

/** Who calls whom in the class, as the compiler sees it: rules 1, 4, 8 and 11 of LANGUAGE.md. */
public final class CallTests {
    private static final int MOST_DEEP = 8;
    private static final Set<String> LIBRARY = Set.of("Math.max", "Math.min", "Math.floorMod", "Integer.bitCount",
            "System.arraycopy", "String.length", "String.charAt", "NoSuchElementException.<init>", "Object.<init>");
    /** Methods that call themselves or one another; each carries its depth, or what is left of it. */
    private static final List<Set<String>> RECURSIONS = List.of(
            Set.of("Saying.readCond", "Saying.readAll", "Saying.readOne"), Set.of("Search.goOn"), Set.of("Search.strokeOn"),
            Set.of("Heaviest.slotFor"), Set.of("Heaviest.walkBest"));

    private static final Map<String, Set<String>> CALLS = new LinkedHashMap<>();
    private static final Set<String> FACE = new TreeSet<>();
    private static final Set<String> PRIVATE = new TreeSet<>();
    private static final Set<String> OUTSIDE = new TreeSet<>();

    public static void main(String[] args) throws IOException {
        Path file = Path.of(System.getProperty("project.home", "."), "src/main/java/HeavyPairs.java");
        if (ToolProvider.getSystemJavaCompiler() == null) {
            System.out.println("this Java has no compiler: calls are not looked at");
            return;
        }
        readCalls(file);
        TestKit.due("rule 1: methods of the face", FACE.size(), 46);
        TestKit.due("methods were seen", CALLS.size() > 200, true);
        for (String call : OUTSIDE) {
            TestKit.due("rule 4: " + call, LIBRARY.contains(call), true);
        }
        recursions();
        for (String method : FACE) {
            int depth = depthOf(method, new LinkedHashSet<>());
            TestKit.due("rule 11: " + method + " goes " + depth + " deep", depth <= MOST_DEEP, true);
        }
        everyMethodIsCalled();
        TestKit.finish("CallTests");
    }

    private static void readCalls(Path file) throws IOException {
        JavaCompiler compiler = ToolProvider.getSystemJavaCompiler();
        try (StandardJavaFileManager files = compiler.getStandardFileManager(null, null, null)) {
            JavacTask task = (JavacTask) compiler.getTask(null, files, null, List.of("-proc:none"), null, files.getJavaFileObjects(file));
            Iterable<? extends CompilationUnitTree> units = task.parse();
            task.analyze();
            Trees trees = Trees.instance(task);
            for (CompilationUnitTree unit : units) {
                new Calls(trees).scan(unit, null);
            }
        }
    }

    private static final class Calls extends TreePathScanner<Void, Void> {
        private final Trees trees;
        private final Deque<String> within = new ArrayDeque<>();

        Calls(Trees trees) {
            this.trees = trees;
        }

        @Override
        public Void visitClass(ClassTree tree, Void none) {
            // what a field is made with is called by the constructor
            within.push(tree.getSimpleName() + ".<init>");
            CALLS.computeIfAbsent(within.peek(), name -> new LinkedHashSet<>());
            super.visitClass(tree, none);
            within.pop();
            return null;
        }

        @Override
        public Void visitMethod(MethodTree tree, Void none) {
            Element method = trees.getElement(getCurrentPath());
            String name = nameOf(method);
            CALLS.computeIfAbsent(name, key -> new LinkedHashSet<>());
            if (method.getModifiers().contains(Modifier.PUBLIC) && !name.endsWith("<init>")) {
                FACE.add(name);
            }
            if (method.getModifiers().contains(Modifier.PRIVATE)) {
                PRIVATE.add(name);
            }
            within.push(name);
            super.visitMethod(tree, none);
            within.pop();
            return null;
        }

        @Override
        public Void visitMethodInvocation(MethodInvocationTree tree, Void none) {
            note(trees.getElement(getCurrentPath()));
            return super.visitMethodInvocation(tree, none);
        }

        @Override
        public Void visitNewClass(NewClassTree tree, Void none) {
            note(trees.getElement(getCurrentPath()));
            return super.visitNewClass(tree, none);
        }

        private void note(Element called) {
            boolean own = ((TypeElement) called.getEnclosingElement()).getQualifiedName().toString().startsWith("HeavyPairs");
            if (own) {
                CALLS.get(within.peek()).add(nameOf(called));
            } else {
                OUTSIDE.add(nameOf(called));
            }
        }
    }

    private static String nameOf(Element method) {
        String owner = method.getEnclosingElement().getSimpleName().toString();
        return owner + "." + ((ExecutableElement) method).getSimpleName();
    }

    /** Methods that may call themselves are those that are told, no others. */
    private static void recursions() {
        Set<Set<String>> seen = new LinkedHashSet<>();
        for (String method : CALLS.keySet()) {
            if (reached(method).contains(method)) {
                Set<String> group = new TreeSet<>();
                for (String other : reached(method)) {
                    if (reached(other).contains(method)) {
                        group.add(other);
                    }
                }
                seen.add(group);
                TestKit.due("rule 8: private " + method, PRIVATE.contains(method), true);
            }
        }
        for (Set<String> group : seen) {
            TestKit.due("rule 8: " + group, RECURSIONS.contains(group), true);
        }
        TestKit.due("recursions that are seen", seen.size(), RECURSIONS.size());
    }

    private static Set<String> reached(String method) {
        Set<String> all = new LinkedHashSet<>(CALLS.getOrDefault(method, Set.of()));
        List<String> open = new ArrayList<>(all);
        for (int i = 0; i < open.size(); i++) {
            for (String next : CALLS.getOrDefault(open.get(i), Set.of())) {
                if (all.add(next)) {
                    open.add(next);
                }
            }
        }
        return all;
    }

    /** The longest row of calls from a method on, itself counted, that has no method twice. */
    private static int depthOf(String method, Set<String> open) {
        if (!open.add(method)) {
            return 0;
        }
        int deepest = 0;
        for (String next : CALLS.getOrDefault(method, Set.of())) {
            deepest = Math.max(deepest, depthOf(next, open));
        }
        open.remove(method);
        return deepest + 1;
    }

    private static void everyMethodIsCalled() {
        Set<String> called = new TreeSet<>();
        for (String method : FACE) {
            called.add(method);
            called.addAll(reached(method));
        }
        called.add("HeavyPairs.<init>");
        called.addAll(reached("HeavyPairs.<init>"));
        for (String method : CALLS.keySet()) {
            TestKit.due("called by the face: " + method, called.contains(method), true);
        }
    }
}
