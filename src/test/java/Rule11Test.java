import com.sun.source.tree.ClassTree;
import com.sun.source.tree.CompilationUnitTree;
import com.sun.source.tree.MethodInvocationTree;
import com.sun.source.tree.MethodTree;
import com.sun.source.tree.NewClassTree;
import com.sun.source.util.JavacTask;
import com.sun.source.util.TreePathScanner;
import com.sun.source.util.Trees;
import java.io.IOException;
import java.util.ArrayList;
import java.util.LinkedHashMap;
import java.util.LinkedHashSet;
import java.util.List;
import java.util.Map;
import java.util.Set;
import javax.lang.model.element.ElementKind;
import javax.lang.model.element.ExecutableElement;
import javax.lang.model.element.Modifier;
import javax.lang.model.element.TypeElement;
import javax.lang.model.util.ElementFilter;
import javax.tools.JavaCompiler;
import javax.tools.StandardJavaFileManager;
import javax.tools.ToolProvider;

/** Rule 11 of LANGUAGE.md, by the compiler's own view of the source. */
public final class Rule11Test {
    private static final String SOURCE = "src/main/java/OpcodeFrames.java";

    // Every method and constructor of the class, and what each calls, the library's ones too.
    private static final Map<ExecutableElement, Set<ExecutableElement>> CALLS = new LinkedHashMap<>();
    private static final Map<String, Long> LINES = new LinkedHashMap<>();
    private static final List<TypeElement> CLASSES = new ArrayList<>();
    private static JavacTask task;

    public static void main(String[] args) throws Exception {
        look();
        Cases.of(Rule11Test.class);
    }

    /** A constructor's call counts, and so does the one of the class above that it makes. */
    static void rule11_callsGoAtMostEightDeep(Check check) {
        for (ExecutableElement method : CALLS.keySet()) {
            if (method.getModifiers().contains(Modifier.PUBLIC)) {
                List<ExecutableElement> chain = longest(method, new LinkedHashSet<>());
                check.due(method + " by " + chain, chain.size() <= 8, true);
            }
        }
    }

    static void rule11_parameters(Check check) {
        for (ExecutableElement method : CALLS.keySet()) {
            check.due(method + "'s parameters", method.getParameters().size() <= 7, true);
        }
    }

    static void rule11_lines(Check check) {
        LINES.forEach((name, lines) -> check.due(name + "'s lines: " + lines, lines <= 60, true));
    }

    static void rule11_classes(Check check) {
        check.due("classes " + CLASSES, CLASSES.size() <= 12, true);
    }

    static void rule11_fields(Check check) {
        for (TypeElement type : CLASSES) {
            long fields = type.getEnclosedElements().stream()
                    .filter(e -> e.getKind() == ElementKind.FIELD)
                    .filter(e -> !e.getModifiers().contains(Modifier.STATIC)).count();
            check.due(type + "'s fields: " + fields, fields <= 20, true);
        }
    }

    /** A method is in it once, so that a recursion counts as the one round that it is. */
    private static List<ExecutableElement> longest(ExecutableElement method, Set<ExecutableElement> open) {
        List<ExecutableElement> best = List.of();
        open.add(method);
        for (ExecutableElement called : CALLS.getOrDefault(method, Set.of())) {
            for (ExecutableElement run : thatMayRun(called)) {
                List<ExecutableElement> chain = open.contains(run) ? List.of() : longest(run, open);
                best = chain.size() > best.size() ? chain : best;
            }
        }
        open.remove(method);
        List<ExecutableElement> chain = new ArrayList<>(List.of(method));
        chain.addAll(best);
        return chain;
    }

    private static Set<ExecutableElement> thatMayRun(ExecutableElement called) {
        Set<ExecutableElement> all = new LinkedHashSet<>(Set.of(called));
        for (ExecutableElement method : CALLS.keySet()) {
            TypeElement type = (TypeElement) method.getEnclosingElement();
            if (task.getElements().overrides(method, called, type)) {
                all.add(method);
            }
        }
        return all;
    }

    private static void look() throws IOException {
        JavaCompiler compiler = ToolProvider.getSystemJavaCompiler();
        StandardJavaFileManager files = compiler.getStandardFileManager(null, null, null);
        task = (JavacTask) compiler.getTask(null, files, null, List.of("-proc:none"), null,
                files.getJavaFileObjects(SOURCE));
        Iterable<? extends CompilationUnitTree> units = task.parse();
        task.analyze();
        for (CompilationUnitTree unit : units) {
            new Scanner(unit).scan(unit, null);
        }
    }

    private static final class Scanner extends TreePathScanner<Void, Void> {
        private final Trees trees = Trees.instance(task);
        private final CompilationUnitTree unit;
        private TypeElement type;
        private ExecutableElement method;

        Scanner(CompilationUnitTree unit) {
            this.unit = unit;
        }

        @Override
        public Void visitClass(ClassTree tree, Void nothing) {
            TypeElement outer = type;
            type = (TypeElement) trees.getElement(getCurrentPath());
            CLASSES.add(type);
            super.visitClass(tree, nothing);
            type = outer;
            return null;
        }

        @Override
        public Void visitMethod(MethodTree tree, Void nothing) {
            method = (ExecutableElement) trees.getElement(getCurrentPath());
            CALLS.computeIfAbsent(method, m -> new LinkedHashSet<>());
            LINES.put(method.getEnclosingElement() + "." + method, lineAt(end(tree)) - lineAt(start(tree)) + 1);
            super.visitMethod(tree, nothing);
            method = null;
            return null;
        }

        @Override
        public Void visitMethodInvocation(MethodInvocationTree tree, Void nothing) {
            noteCall();
            return super.visitMethodInvocation(tree, nothing);
        }

        @Override
        public Void visitNewClass(NewClassTree tree, Void nothing) {
            noteCall();
            return super.visitNewClass(tree, nothing);
        }

        /** Outside of all methods it is a field's initialiser that calls, and so each constructor. */
        private void noteCall() {
            ExecutableElement called = (ExecutableElement) trees.getElement(getCurrentPath());
            List<ExecutableElement> callers = method != null ? List.of(method)
                    : ElementFilter.constructorsIn(type.getEnclosedElements());
            for (ExecutableElement caller : callers) {
                CALLS.computeIfAbsent(caller, m -> new LinkedHashSet<>()).add(called);
            }
        }

        private long start(MethodTree tree) {
            return trees.getSourcePositions().getStartPosition(unit, tree);
        }

        /** One that the compiler adds itself has no end, and is one line. */
        private long end(MethodTree tree) {
            long end = trees.getSourcePositions().getEndPosition(unit, tree);
            return Math.max(end, start(tree));
        }

        private long lineAt(long position) {
            return unit.getLineMap().getLineNumber(position);
        }
    }
}
