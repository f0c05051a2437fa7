import com.sun.source.tree.ClassTree;
import com.sun.source.tree.CompilationUnitTree;
import com.sun.source.tree.MethodInvocationTree;
import com.sun.source.tree.MethodTree;
import com.sun.source.tree.NewClassTree;
import com.sun.source.util.JavacTask;
import com.sun.source.util.TreePathScanner;
import com.sun.source.util.Trees;
import java.nio.file.Path;
import java.util.HashMap;
import java.util.LinkedHashSet;
import java.util.List;
import java.util.Map;
import java.util.Set;
import java.util.TreeMap;
import java.util.TreeSet;
import javax.lang.model.element.Element;
import javax.tools.JavaCompiler;
import javax.tools.StandardJavaFileManager;
import javax.tools.ToolProvider;

/** LANGUAGE.md 8 and 11: how deep calls go, which methods call themselves, how many fields a class has. */
public final class DepthTest {
    private static final Map<String, Set<String>> CALLS = new TreeMap<>();
    private static final Map<String, Integer> FIELDS = new TreeMap<>();
    private static final Set<String> RECURSION = Set.of("HeatTown.Reader.readSum", "HeatTown.Reader.readFactor");

    public static void main(String[] args) throws Exception {
        Check check = new Check();
        read(Path.of("src/main/java/HeatTown.java"));
        check.due("methods are found", CALLS.size() > 100, true);
        for (Map.Entry<String, Integer> type : FIELDS.entrySet()) {
            check.due(type.getKey() + " has at most some twenty fields", type.getValue() <= 22, true);
        }
        for (String method : CALLS.keySet()) {
            boolean again = reaches(method, method, new TreeSet<>());
            check.due(method + " calls itself", again, RECURSION.contains(method));
            int deep = depth(method, new HashMap<>());
            check.due(method + " goes " + deep + " deep", deep <= 8, true);
        }
        check.finish();
    }

    /** Whether one method comes to another one by calls. */
    private static boolean reaches(String from, String target, Set<String> seen) {
        for (String next : CALLS.getOrDefault(from, Set.of())) {
            if (next.equals(target) || seen.add(next) && reaches(next, target, seen)) {
                return true;
            }
        }
        return false;
    }

    /** How many calls stand open at once from here on, the library's too; the step back into a sum is not counted. */
    private static int depth(String method, Map<String, Integer> known) {
        Integer before = known.get(method);
        if (before != null) {
            return before;
        }
        int deepest = 0;
        for (String next : CALLS.getOrDefault(method, Set.of())) {
            boolean backwards = method.equals("HeatTown.Reader.readFactor") && RECURSION.contains(next);
            if (!backwards) {
                deepest = Math.max(deepest, depth(next, known));
            }
        }
        known.put(method, deepest + 1);
        return deepest + 1;
    }

    private static void read(Path source) throws Exception {
        JavaCompiler compiler = ToolProvider.getSystemJavaCompiler();
        try (StandardJavaFileManager files = compiler.getStandardFileManager(null, null, null)) {
            JavacTask task = (JavacTask) compiler.getTask(null, files, null, List.of("-proc:none"), null, files.getJavaFileObjects(source));
            Iterable<? extends CompilationUnitTree> units = task.parse();
            task.analyze();
            Trees trees = Trees.instance(task);
            for (CompilationUnitTree unit : units) {
                new Scanner(trees).scan(unit, null);
            }
        }
    }

    private static final class Scanner extends TreePathScanner<Void, Void> {
        private final Trees trees;
        private String method = "";

        Scanner(Trees trees) {
            this.trees = trees;
        }

        private static String nameOf(Element element) {
            return element.getEnclosingElement() + "." + element.getSimpleName();
        }

        @Override
        public Void visitClass(ClassTree type, Void none) {
            int fields = 0;
            for (Element member : trees.getElement(getCurrentPath()).getEnclosedElements()) {
                boolean constant = member.getModifiers().contains(javax.lang.model.element.Modifier.STATIC);
                fields += member.getKind().isField() && !constant ? 1 : 0;
            }
            FIELDS.put(trees.getElement(getCurrentPath()).toString(), fields);
            return super.visitClass(type, none);
        }

        @Override
        public Void visitMethod(MethodTree tree, Void none) {
            String outer = method;
            method = nameOf(trees.getElement(getCurrentPath()));
            CALLS.computeIfAbsent(method, m -> new LinkedHashSet<>());
            super.visitMethod(tree, none);
            method = outer;
            return null;
        }

        @Override
        public Void visitMethodInvocation(MethodInvocationTree call, Void none) {
            note(trees.getElement(getCurrentPath()));
            return super.visitMethodInvocation(call, none);
        }

        @Override
        public Void visitNewClass(NewClassTree made, Void none) {
            note(trees.getElement(getCurrentPath()));
            return super.visitNewClass(made, none);
        }

        private void note(Element called) {
            if (!method.isEmpty() && called != null) {
                CALLS.get(method).add(nameOf(called));
            }
        }
    }
}
