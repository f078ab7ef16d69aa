import com.sun.source.tree.ClassTree;
import com.sun.source.tree.CompilationUnitTree;
import com.sun.source.tree.IdentifierTree;
import com.sun.source.tree.MemberSelectTree;
import com.sun.source.tree.MethodTree;
import com.sun.source.tree.NewClassTree;
import com.sun.source.tree.VariableTree;
import com.sun.source.util.JavacTask;
import com.sun.source.util.SourcePositions;
import com.sun.source.util.TreePathScanner;
import com.sun.source.util.Trees;
import java.io.File;
import java.io.IOException;
import java.util.ArrayDeque;
import java.util.ArrayList;
import java.util.HashMap;
import java.util.HashSet;
import java.util.LinkedHashMap;
import java.util.List;
import java.util.Map;
import java.util.Set;
import javax.lang.model.element.Element;
import javax.lang.model.element.ElementKind;
import javax.lang.model.element.ExecutableElement;
import javax.lang.model.element.Modifier;
import javax.tools.JavaCompiler;
import javax.tools.StandardJavaFileManager;
import javax.tools.ToolProvider;

/**
 * The numbers of rule 11 of LANGUAGE.md and the members of rule 1, seen in the tree that the
 * compiler makes of the source. It runs in the project's root.
 */
public final class ShapeTest {
    private static final File SOURCE = new File("src/main/java/JudgedTerms.java");
    private static final int MOST_PARAMETERS = 7, MOST_LINES = 60, MOST_CALLS = 8,
        MOST_CLASSES = 12, MOST_FIELDS = 20;

    private final Trees trees;
    private final CompilationUnitTree unit;
    private final Map<Element, Set<Element>> calls = new LinkedHashMap<>();
    private final Map<Element, Set<Element>> reached = new HashMap<>();
    private final Map<Element, Integer> depths = new HashMap<>();
    private int classes = 0;

    private ShapeTest(Trees trees, CompilationUnitTree unit) {
        this.trees = trees;
        this.unit = unit;
    }

    public static void main(String[] args) throws IOException {
        JavaCompiler compiler = ToolProvider.getSystemJavaCompiler();
        try (StandardJavaFileManager files = compiler.getStandardFileManager(null, null, null)) {
            JavacTask task = (JavacTask) compiler.getTask(null, files, null, null, null,
                files.getJavaFileObjects(SOURCE));
            CompilationUnitTree unit = task.parse().iterator().next();
            task.analyze();
            new ShapeTest(Trees.instance(task), unit).run();
        }
        Bench.end("ShapeTest");
    }

    private void run() {
        new Scanner().scan(unit, null);
        Bench.due("classes: " + classes, classes <= MOST_CLASSES ? 1 : 0, 1);
        Bench.due("methods were found", calls.size() > 100 ? 1 : 0, 1);
        for (Element method : calls.keySet()) {
            reached.put(method, reachedFrom(method));
        }
        int groups = 0;
        for (Element method : calls.keySet()) {
            int depth = depth(method);
            Bench.due("calls open from " + name(method) + ": " + depth,
                depth <= MOST_CALLS ? 1 : 0, 1);
            groups += reached.get(method).contains(method) ? 1 : 0;
        }
        Bench.due("recursive methods were found", groups > 5 ? 1 : 0, 1);
    }

    private static String name(Element method) {
        return method.getEnclosingElement().getSimpleName() + "." + method.getSimpleName();
    }

    private Set<Element> reachedFrom(Element method) {
        Set<Element> all = new HashSet<>();
        ArrayDeque<Element> open = new ArrayDeque<>(calls.get(method));
        while (!open.isEmpty()) {
            Element next = open.pop();
            if (all.add(next)) {
                open.addAll(calls.get(next));
            }
        }
        return all;
    }

    /** How many methods stand open at most, where methods that call one another count as one. */
    private int depth(Element method) {
        Integer known = depths.get(method);
        if (known != null) {
            return known;
        }
        List<Element> group = new ArrayList<>(List.of(method));
        for (Element other : reached.get(method)) {
            if (other != method && reached.get(other).contains(method)) {
                group.add(other);
            }
        }
        int deepest = 0;
        for (Element member : group) {
            for (Element called : calls.get(member)) {
                if (!group.contains(called)) {
                    deepest = Math.max(deepest, depth(called));
                }
            }
        }
        for (Element member : group) {
            depths.put(member, deepest + 1);
        }
        return deepest + 1;
    }

    private final class Scanner extends TreePathScanner<Void, Void> {
        private final ArrayDeque<Element> methods = new ArrayDeque<>();

        @Override
        public Void visitClass(ClassTree tree, Void none) {
            classes++;
            boolean outer = classes == 1;
            String name = tree.getSimpleName().toString();
            int fields = 0;
            for (var member : tree.getMembers()) {
                if (member instanceof VariableTree field) {
                    boolean constant = field.getModifiers().getFlags().contains(Modifier.STATIC);
                    fields += constant ? 0 : 1;
                }
            }
            Bench.due("fields of " + name + ": " + fields, fields <= MOST_FIELDS ? 1 : 0, 1);
            Set<Modifier> flags = tree.getModifiers().getFlags();
            boolean asRuled = outer ? flags.equals(Set.of(Modifier.PUBLIC, Modifier.FINAL))
                : flags.contains(Modifier.STATIC) && !flags.contains(Modifier.PUBLIC);
            Bench.due("modifiers of " + name, asRuled ? 1 : 0, 1);
            return super.visitClass(tree, none);
        }

        @Override
        public Void visitMethod(MethodTree tree, Void none) {
            Element method = trees.getElement(getCurrentPath());
            calls.putIfAbsent(method, new HashSet<>());
            int parameters = tree.getParameters().size();
            Bench.due("parameters of " + name(method), parameters <= MOST_PARAMETERS ? 1 : 0, 1);
            Bench.due("lines of " + name(method), lines(tree) <= MOST_LINES ? 1 : 0, 1);
            methods.push(method);
            super.visitMethod(tree, none);
            methods.pop();
            return null;
        }

        private long lines(MethodTree tree) {
            SourcePositions at = trees.getSourcePositions();
            return unit.getLineMap().getLineNumber(at.getEndPosition(unit, tree))
                - unit.getLineMap().getLineNumber(at.getStartPosition(unit, tree)) + 1;
        }

        @Override
        public Void visitVariable(VariableTree tree, Void none) {
            Element field = trees.getElement(getCurrentPath());
            if (field.getKind() == ElementKind.FIELD && isOuter(field)) {
                Set<Modifier> flags = tree.getModifiers().getFlags();
                boolean constant = flags.containsAll(
                    Set.of(Modifier.PUBLIC, Modifier.STATIC, Modifier.FINAL));
                Bench.due("private, or a constant: " + field,
                    constant || flags.contains(Modifier.PRIVATE) ? 1 : 0, 1);
            }
            return super.visitVariable(tree, none);
        }

        private boolean isOuter(Element member) {
            return member.getEnclosingElement().getSimpleName().contentEquals("JudgedTerms");
        }

        @Override
        public Void visitIdentifier(IdentifierTree tree, Void none) {
            note(trees.getElement(getCurrentPath()));
            return super.visitIdentifier(tree, none);
        }

        @Override
        public Void visitMemberSelect(MemberSelectTree tree, Void none) {
            note(trees.getElement(getCurrentPath()));
            return super.visitMemberSelect(tree, none);
        }

        @Override
        public Void visitNewClass(NewClassTree tree, Void none) {
            note(trees.getElement(getCurrentPath()));
            return super.visitNewClass(tree, none);
        }

        /** Notes a call of a method or constructor that the source itself holds. */
        private void note(Element called) {
            boolean own = called instanceof ExecutableElement
                && trees.getTree(called) != null && trees.getPath(called) != null
                && trees.getPath(called).getCompilationUnit() == unit;
            if (!own || methods.isEmpty()) {
                return;
            }
            calls.putIfAbsent(called, new HashSet<>());
            calls.get(methods.peek()).add(called);
        }
    }
}
