import com.sun.source.tree.ClassTree;
import com.sun.source.tree.CompilationUnitTree;
import com.sun.source.tree.MethodInvocationTree;
import com.sun.source.tree.MethodTree;
import com.sun.source.tree.NewClassTree;
import com.sun.source.util.JavacTask;
import com.sun.source.util.TreePathScanner;
import com.sun.source.util.Trees;
import java.nio.file.Path;
import java.util.ArrayList;
import java.util.LinkedHashSet;
import java.util.List;
import java.util.Map;
import java.util.Set;
import java.util.TreeMap;
import javax.lang.model.element.Element;
import javax.lang.model.element.ElementKind;
import javax.lang.model.element.Modifier;
import javax.tools.JavaCompiler;
import javax.tools.StandardJavaFileManager;
import javax.tools.ToolProvider;

/** Rules of LANGUAGE.md that need to know what is called: the library (4), how deep calls go, how much there is (11). */
public final class CallsTest {
    /** The part of the library that the class uses so far; rule 4 lets more, which then is put here. */
    private static final Set<String> LIBRARY = Set.of("java.lang.Integer.bitCount(int)", "java.lang.Integer.numberOfTrailingZeros(int)",
        "java.lang.Math.max(int,int)", "java.lang.String.indexOf(int)", "java.util.Arrays.fill(int[],int)");
    private static final int DEEPEST = 8, MOST_PARAMETERS = 7, MOST_CLASSES = 12, MOST_FIELDS = 20;

    private static int wrong = 0;

    private static void check(String what, boolean right) {
        if (!right) {
            wrong++;
            System.out.println("calls: " + what);
        }
    }

    /** Who calls whom, by names with their classes. */
    private static final class Reader extends TreePathScanner<Void, String> {
        final Trees trees;
        final Map<String, Set<String>> calls = new TreeMap<>();
        int classes = 0;

        Reader(Trees trees) {
            this.trees = trees;
        }

        private static String name(Element method) {
            return method.getEnclosingElement() + "." + method;
        }

        @Override
        public Void visitClass(ClassTree tree, String inside) {
            classes++;
            Element type = trees.getElement(getCurrentPath());
            long fields = type.getEnclosedElements().stream()
                .filter(e -> e.getKind() == ElementKind.FIELD && !e.getModifiers().contains(Modifier.STATIC)).count();
            check(type + " has " + fields + " fields", fields <= MOST_FIELDS);
            return super.visitClass(tree, inside);
        }

        @Override
        public Void visitMethod(MethodTree tree, String inside) {
            String name = name(trees.getElement(getCurrentPath()));
            calls.put(name, new LinkedHashSet<>());
            check(name + " takes " + tree.getParameters().size(), tree.getParameters().size() <= MOST_PARAMETERS);
            return super.visitMethod(tree, name);
        }

        @Override
        public Void visitMethodInvocation(MethodInvocationTree tree, String inside) {
            called(inside);
            return super.visitMethodInvocation(tree, inside);
        }

        @Override
        public Void visitNewClass(NewClassTree tree, String inside) {
            called(inside);
            return super.visitNewClass(tree, inside);
        }

        private void called(String inside) {
            // Fields are made outside of any method, by the constructor.
            if (inside != null) {
                calls.get(inside).add(name(trees.getElement(getCurrentPath())));
            }
        }
    }

    private static Reader read(Path file) throws Exception {
        JavaCompiler compiler = ToolProvider.getSystemJavaCompiler();
        try (StandardJavaFileManager files = compiler.getStandardFileManager(null, null, null)) {
            JavacTask task = (JavacTask) compiler.getTask(null, files, null, List.of("-proc:none"), null, files.getJavaFileObjects(file));
            Iterable<? extends CompilationUnitTree> units = task.parse();
            task.analyze();
            Reader reader = new Reader(Trees.instance(task));
            for (CompilationUnitTree unit : units) {
                reader.scan(unit, null);
            }
            return reader;
        }
    }

    /** The longest way of calls on from here; one that comes back to itself is recursion, which is not gone again. */
    private static List<String> longest(Map<String, Set<String>> calls, String method, List<String> ahead) {
        List<String> way = new ArrayList<>(ahead);
        way.add(method);
        List<String> best = way;
        for (String next : calls.get(method)) {
            if (calls.containsKey(next) && !way.contains(next)) {
                List<String> found = longest(calls, next, way);
                best = found.size() > best.size() ? found : best;
            }
        }
        return best;
    }

    private static void checkLibrary(Map<String, Set<String>> calls) {
        for (Map.Entry<String, Set<String>> entry : calls.entrySet()) {
            for (String called : entry.getValue()) {
                boolean known = calls.containsKey(called) || LIBRARY.contains(called) || called.equals("java.lang.Object.Object()");
                check("rule 4: " + entry.getKey() + " calls " + called, known);
            }
        }
    }

    public static void main(String[] args) throws Exception {
        Reader reader = read(Path.of("src/main/java/SpillJoin.java"));
        check("rule 11: " + reader.classes + " classes", reader.classes >= 1 && reader.classes <= MOST_CLASSES);
        checkLibrary(reader.calls);
        int deepest = 0;
        for (String method : reader.calls.keySet()) {
            List<String> way = longest(reader.calls, method, List.of());
            deepest = Math.max(deepest, way.size());
            check("rule 11: calls go " + way.size() + " deep: " + way, way.size() <= DEEPEST);
        }
        check("no calls were found: the test reads the class wrongly", deepest >= 2);
        System.out.println(wrong == 0 ? "calls keep to the rules, " + deepest + " deep" : wrong + " faults of the calls");
        if (wrong != 0) System.exit(1);
    }
}
