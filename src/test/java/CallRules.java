import com.sun.source.tree.ClassTree;
import com.sun.source.tree.CompilationUnitTree;
import com.sun.source.tree.MethodInvocationTree;
import com.sun.source.tree.MethodTree;
import com.sun.source.tree.NewArrayTree;
import com.sun.source.tree.NewClassTree;
import com.sun.source.util.JavacTask;
import com.sun.source.util.TreePath;
import com.sun.source.util.TreePathScanner;
import com.sun.source.util.Trees;
import java.io.IOException;
import java.nio.file.Path;
import java.util.ArrayList;
import java.util.LinkedHashSet;
import java.util.List;
import java.util.Map;
import java.util.Set;
import java.util.TreeMap;
import javax.lang.model.element.Element;
import javax.tools.JavaCompiler;
import javax.tools.StandardJavaFileManager;
import javax.tools.ToolProvider;

/**
 * Rule 11 of ../shared/LANGUAGE.md: calls that are no recursion go at most eight deep. And of rule 12 more
 * than it asks: objects and arrays are made with a WoundTape alone, and no call makes one.
 */
public final class CallRules {
    private static final int DEEPEST = 8;
    // The calls that may be open twice at a time: B of THE LAW holds C, and C may hold B.
    private static final Set<String> RECURSIVE = Set.of("Law.readChoice", "Law.readClaim");

    private final Map<String, Set<String>> calls = new TreeMap<>();
    private final Set<String> makers = new LinkedHashSet<>();

    public static void main(String[] args) throws IOException {
        CallRules d = new CallRules();
        d.read(Path.of(args.length > 0 ? args[0] : "src/main/java/WoundTape.java"));
        List<String> wrong = d.judge();
        wrong.forEach(System.out::println);
        System.out.println("CallRules: " + d.calls.size() + " methods, " + wrong.size() + " failed");
        if (!wrong.isEmpty()) {
            System.exit(1);
        }
    }

    private void read(Path file) throws IOException {
        JavaCompiler compiler = ToolProvider.getSystemJavaCompiler();
        try (StandardJavaFileManager files = compiler.getStandardFileManager(null, null, null)) {
            JavacTask task = (JavacTask) compiler.getTask(null, files, null, List.of("-proc:none"), null,
                files.getJavaFileObjects(file));
            Iterable<? extends CompilationUnitTree> units = task.parse();
            task.analyze();
            Trees trees = Trees.instance(task);
            for (CompilationUnitTree unit : units) {
                new Callers(trees).scan(unit, null);
            }
        }
    }

    /** Notes of each method which it calls; those of the library, too, as they stand on the same pile. */
    private final class Callers extends TreePathScanner<Void, Void> {
        private final Trees trees;
        private String caller = "";
        private String in = "";

        Callers(Trees trees) {
            this.trees = trees;
        }

        @Override
        public Void visitClass(ClassTree c, Void none) {
            String outer = in;
            in = c.getSimpleName().toString();
            super.visitClass(c, none);
            in = outer;
            return null;
        }

        @Override
        public Void visitMethod(MethodTree m, Void none) {
            caller = in + "." + m.getName();
            calls.putIfAbsent(caller, new LinkedHashSet<>());
            super.visitMethod(m, none);
            caller = "";
            return null;
        }

        @Override
        public Void visitMethodInvocation(MethodInvocationTree m, Void none) {
            Element called = trees.getElement(new TreePath(getCurrentPath(), m.getMethodSelect()));
            if (!caller.isEmpty() && called != null && !called.getSimpleName().contentEquals("<init>")) {
                calls.get(caller).add(called.getEnclosingElement().getSimpleName() + "." + called.getSimpleName());
            }
            return super.visitMethodInvocation(m, none);
        }

        @Override
        public Void visitNewClass(NewClassTree n, Void none) {
            makers.add(caller);
            return super.visitNewClass(n, none);
        }

        @Override
        public Void visitNewArray(NewArrayTree n, Void none) {
            makers.add(caller);
            return super.visitNewArray(n, none);
        }
    }

    private List<String> judge() {
        List<String> wrong = new ArrayList<>();
        if (!calls.containsKey("WoundTape.look")) {
            wrong.add("the class was not read");
        }
        for (String maker : makers) {
            if (!maker.isEmpty() && !maker.endsWith(".<init>")) {
                wrong.add("makes objects: " + maker);
            }
        }
        for (String method : calls.keySet()) {
            deepen(method, new ArrayList<>(), wrong);
        }
        return wrong;
    }

    private void deepen(String method, List<String> open, List<String> wrong) {
        if (open.contains(method)) {
            List<String> round = open.subList(open.indexOf(method), open.size());
            if (!RECURSIVE.containsAll(round)) {
                wrong.add("calls one another: " + round);
            }
            return;
        }
        open.add(method);
        if (open.size() == DEEPEST + 1) {
            wrong.add("deeper than " + DEEPEST + ": " + open);
        } else {
            for (String called : calls.getOrDefault(method, Set.of())) {
                deepen(called, open, wrong);
            }
        }
        open.remove(open.size() - 1);
    }
}
