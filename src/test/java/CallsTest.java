import com.sun.source.tree.CompilationUnitTree;
import com.sun.source.tree.MethodInvocationTree;
import com.sun.source.tree.MethodTree;
import com.sun.source.tree.NewClassTree;
import com.sun.source.util.JavacTask;
import com.sun.source.util.TreePathScanner;
import com.sun.source.util.Trees;
import java.io.IOException;
import java.util.ArrayDeque;
import java.util.Deque;
import java.util.List;
import java.util.Map;
import java.util.Set;
import java.util.TreeMap;
import java.util.TreeSet;
import javax.lang.model.element.Element;
import javax.lang.model.element.Modifier;
import javax.tools.JavaCompiler;
import javax.tools.StandardJavaFileManager;
import javax.tools.ToolProvider;

/** The calls of the class as the compiler sees them: rules 4, 8 and 11 of LANGUAGE.md stand or fall with them. */
public final class CallsTest {
    private static final Check check = new Check();
    private static final int DEEPEST = 8;
    // What the class uses of the library; LANGUAGE.md allows more.
    private static final Set<String> LIBRARY = Set.of("java.lang.Object.<init>", "java.lang.String.length",
            "java.lang.String.charAt", "java.lang.System.arraycopy", "java.util.Arrays.fill", "java.lang.Math.min",
            "java.lang.Math.max", "java.lang.Long.bitCount");

    private final Map<String, Set<String>> calls = new TreeMap<>();
    private final Set<String> library = new TreeSet<>();
    private final Set<String> face = new TreeSet<>();
    private final Map<String, Integer> depths = new TreeMap<>();

    public static void main(String[] args) throws IOException {
        CallsTest test = new CallsTest();
        test.read("src/main/java/HelpDesk.java");
        check.due(1, "members of the face", test.face.size(), 60);
        for (String call : test.library) {
            check.due(4, "rule 4 of LANGUAGE.md: the library has " + call, LIBRARY.contains(call), true);
        }
        for (String method : test.face) {
            int depth = test.depth(method, new ArrayDeque<>());
            check.due(11, "rule 11 of LANGUAGE.md: calls in one another from " + method + ", " + depth,
                    depth <= DEEPEST, true);
        }
        check.finish();
    }

    private void read(String file) throws IOException {
        JavaCompiler compiler = ToolProvider.getSystemJavaCompiler();
        StandardJavaFileManager files = compiler.getStandardFileManager(null, null, null);
        JavacTask task = (JavacTask) compiler.getTask(null, files, null, List.of("-proc:none"), null,
                files.getJavaFileObjects(file));
        CompilationUnitTree unit = task.parse().iterator().next();
        task.analyze();
        new Reader(Trees.instance(task)).scan(unit, null);
    }

    /** How many methods stand open at once when this one is called, itself among them. */
    private int depth(String method, Deque<String> open) {
        check.due(8, "rule 8 of LANGUAGE.md: " + method + " calls itself through " + open, open.contains(method),
                false);
        if (depths.containsKey(method) || open.contains(method)) {
            return depths.getOrDefault(method, 0);
        }
        open.push(method);
        int deepest = 0;
        for (String called : calls.getOrDefault(method, Set.of())) {
            deepest = Math.max(deepest, depth(called, open));
        }
        open.pop();
        depths.put(method, deepest + 1);
        return deepest + 1;
    }

    private final class Reader extends TreePathScanner<Void, String> {
        private final Trees trees;

        Reader(Trees trees) {
            this.trees = trees;
        }

        private String name(Element method) {
            return method.getEnclosingElement() + "." + method.getSimpleName();
        }

        @Override
        public Void visitMethod(MethodTree tree, String in) {
            Element method = trees.getElement(getCurrentPath());
            if (method.getModifiers().contains(Modifier.PUBLIC)) {
                face.add(name(method));
            }
            return super.visitMethod(tree, name(method));
        }

        @Override
        public Void visitMethodInvocation(MethodInvocationTree tree, String in) {
            add(in);
            return super.visitMethodInvocation(tree, in);
        }

        @Override
        public Void visitNewClass(NewClassTree tree, String in) {
            add(in);
            return super.visitNewClass(tree, in);
        }

        private void add(String in) {
            String called = name(trees.getElement(getCurrentPath()));
            if (called.startsWith("HelpDesk")) {
                calls.computeIfAbsent(in == null ? "fields" : in, key -> new TreeSet<>()).add(called);
            } else {
                library.add(called);
            }
        }
    }
}
