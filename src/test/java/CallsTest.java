import com.sun.source.tree.BinaryTree;
import com.sun.source.tree.ClassTree;
import com.sun.source.tree.CompilationUnitTree;
import com.sun.source.tree.CompoundAssignmentTree;
import com.sun.source.tree.ExpressionTree;
import com.sun.source.tree.MethodInvocationTree;
import com.sun.source.tree.MethodTree;
import com.sun.source.tree.NewArrayTree;
import com.sun.source.tree.NewClassTree;
import com.sun.source.tree.ThrowTree;
import com.sun.source.tree.Tree;
import com.sun.source.tree.VariableTree;
import com.sun.source.util.JavacTask;
import com.sun.source.util.TreePath;
import com.sun.source.util.TreePathScanner;
import com.sun.source.util.Trees;
import java.io.IOException;
import java.nio.file.Path;
import java.util.ArrayList;
import java.util.HashSet;
import java.util.List;
import java.util.Map;
import java.util.Set;
import java.util.TreeMap;
import java.util.TreeSet;
import javax.lang.model.element.Element;
import javax.lang.model.element.ExecutableElement;
import javax.lang.model.element.Modifier;
import javax.lang.model.element.VariableElement;
import javax.tools.JavaCompiler;
import javax.tools.StandardJavaFileManager;
import javax.tools.ToolProvider;

/** Rules of LANGUAGE.md that hold between methods, by the compiler's own tree of the class: who calls whom, how deep. */
public final class CallsTest {
    private static final int DEEPEST = 8;
    private static final Set<String> LIBRARY = Set.of("java.lang.Math.max", "java.lang.Math.min", "java.lang.Math.abs",
        "java.lang.Integer.bitCount", "java.lang.System.arraycopy", "java.lang.String.length", "java.lang.String.charAt",
        "java.lang.Object.<init>", "java.lang.IndexOutOfBoundsException.<init>", "java.util.NoSuchElementException.<init>");
    private static final Set<String> TYPES = Set.of("int", "long", "boolean", "byte", "char", "int[]", "long[]", "boolean[]", "byte[]",
        "int[][]", "java.lang.String");
    // Divisors that are no constants: each stands behind a test of its own.
    private static final Set<String> TESTED = Set.of("join by b", "join by high", "chance by tale.shoes");

    private static final Map<String, Set<String>> calls = new TreeMap<>();
    private static final Map<String, ExecutableElement> methods = new TreeMap<>();

    public static void main(String[] args) throws IOException {
        String source = System.getProperty("leftshoes.source", "src/main/java/LeftShoes.java");
        JavaCompiler compiler = ToolProvider.getSystemJavaCompiler();
        try (StandardJavaFileManager files = compiler.getStandardFileManager(null, null, null)) {
            JavacTask task = (JavacTask) compiler.getTask(null, files, null, List.of("-proc:none"), null, files.getJavaFileObjects(Path.of(source)));
            Iterable<? extends CompilationUnitTree> units = task.parse();
            task.analyze();
            for (CompilationUnitTree unit : units) new Walk(Trees.instance(task)).scan(unit, null);
        }
        Due.is("methods were found", methods.size() > 100, true);
        names();
        depth();
        Due.end();
    }

    private static String named(ExecutableElement method) {
        return method.getEnclosingElement() + "." + method.getSimpleName() + method.getParameters().stream().map(p -> p.asType().toString()).toList();
    }

    // Rule 1: no private method bears the name of a public one; beside the face only classes are seen from outside.
    private static void names() {
        Set<String> face = new HashSet<>();
        for (ExecutableElement m : methods.values()) if (m.getModifiers().contains(Modifier.PUBLIC)) face.add(m.getSimpleName().toString());
        face.remove("<init>");
        Due.is("methods of the face", face.size(), 37);
        for (Map.Entry<String, ExecutableElement> m : methods.entrySet()) {
            if (m.getValue().getModifiers().contains(Modifier.PUBLIC)) continue;
            Due.is("a public name for " + m.getKey(), face.contains(m.getValue().getSimpleName().toString()), false);
        }
    }

    // Rule 11: how many methods stand open at once, where those that call one another by recursion count as one.
    private static void depth() {
        Map<String, Set<String>> reach = new TreeMap<>();
        for (String m : calls.keySet()) reach.put(m, reached(m));
        Set<String> recursive = new TreeSet<>();
        for (String m : reach.keySet()) if (reach.get(m).contains(m)) recursive.add(m);
        for (String m : recursive) Due.is("rule 8, private: " + m, methods.get(m).getModifiers().contains(Modifier.PRIVATE), true);
        for (String m : recursive) Due.is("rule 8, carries its depth: " + m, methods.get(m).getParameters().isEmpty(), false);
        for (String m : calls.keySet()) {
            int open = open(m, reach, new TreeMap<>());
            Due.is("rule 11, at most " + DEEPEST + " calls deep from " + m + ": " + open, open <= DEEPEST, true);
        }
    }

    private static Set<String> reached(String from) {
        Set<String> found = new TreeSet<>();
        List<String> open = new ArrayList<>(calls.get(from));
        while (!open.isEmpty()) {
            String m = open.remove(open.size() - 1);
            if (found.add(m)) open.addAll(calls.get(m));
        }
        return found;
    }

    private static int open(String m, Map<String, Set<String>> reach, Map<String, Integer> known) {
        if (known.containsKey(m)) return known.get(m);
        Set<String> group = new TreeSet<>(Set.of(m));
        for (String other : reach.get(m)) if (reach.get(other).contains(m)) group.add(other);
        int deepest = 0;
        for (String one : group) for (String next : calls.get(one)) if (!group.contains(next)) deepest = Math.max(deepest, open(next, reach, known));
        known.put(m, deepest + 1);
        return deepest + 1;
    }

    private static final class Walk extends TreePathScanner<Void, Void> {
        private static final Set<Tree.Kind> BARRED = Set.of(Tree.Kind.LAMBDA_EXPRESSION, Tree.Kind.MEMBER_REFERENCE, Tree.Kind.TRY,
            Tree.Kind.SYNCHRONIZED, Tree.Kind.ASSERT, Tree.Kind.SWITCH_EXPRESSION, Tree.Kind.FLOAT_LITERAL, Tree.Kind.DOUBLE_LITERAL,
            Tree.Kind.ANNOTATION, Tree.Kind.RECORD, Tree.Kind.INTERSECTION_TYPE, Tree.Kind.UNION_TYPE, Tree.Kind.INSTANCE_OF);
        private final Trees trees;
        private ExecutableElement method;

        Walk(Trees trees) {
            this.trees = trees;
        }

        @Override
        public Void scan(Tree tree, Void nothing) {
            if (tree != null && BARRED.contains(tree.getKind())) Due.is("barred, " + tree, false, true);
            return super.scan(tree, nothing);
        }

        @Override
        public Void visitMethod(MethodTree tree, Void nothing) {
            method = (ExecutableElement) trees.getElement(getCurrentPath());
            methods.put(named(method), method);
            calls.putIfAbsent(named(method), new TreeSet<>());
            super.visitMethod(tree, nothing);
            method = null;
            return null;
        }

        @Override
        public Void visitClass(ClassTree tree, Void nothing) {
            Due.is("rule 2, no class in a method: " + tree.getSimpleName(), method == null, true);
            return super.visitClass(tree, nothing);
        }

        private void call(Element called) {
            ExecutableElement to = (ExecutableElement) called;
            String owner = to.getEnclosingElement().toString();
            if (!owner.startsWith("LeftShoes")) {
                Due.is("rule 4, the library: " + owner + "." + to.getSimpleName(), LIBRARY.contains(owner + "." + to.getSimpleName()), true);
            } else if (method != null) {
                calls.putIfAbsent(named(to), new TreeSet<>());
                calls.get(named(method)).add(named(to));
            }
        }

        @Override
        public Void visitMethodInvocation(MethodInvocationTree tree, Void nothing) {
            call(trees.getElement(getCurrentPath()));
            return super.visitMethodInvocation(tree, nothing);
        }

        @Override
        public Void visitNewClass(NewClassTree tree, Void nothing) {
            call(trees.getElement(getCurrentPath()));
            boolean thrown = getCurrentPath().getParentPath().getLeaf() instanceof ThrowTree;
            Due.is("rows are made ahead: " + tree, thrown || atTheBeginning(), true);
            return super.visitNewClass(tree, nothing);
        }

        @Override
        public Void visitNewArray(NewArrayTree tree, Void nothing) {
            Due.is("rows are made ahead: " + tree, atTheBeginning(), true);
            return super.visitNewArray(tree, nothing);
        }

        private boolean atTheBeginning() {
            return method == null || method.getSimpleName().contentEquals("<init>");
        }

        @Override
        public Void visitThrow(ThrowTree tree, Void nothing) {
            Due.is("rule 6, " + tree, tree.getExpression() instanceof NewClassTree made && made.getArguments().size() == 1
                && made.getArguments().get(0).getKind() == Tree.Kind.STRING_LITERAL, true);
            Due.is("rule 6, " + tree + " in " + method, method != null && method.getSimpleName().contentEquals("shoe"), true);
            return super.visitThrow(tree, nothing);
        }

        @Override
        public Void visitBinary(BinaryTree tree, Void nothing) {
            if (tree.getKind() == Tree.Kind.DIVIDE || tree.getKind() == Tree.Kind.REMAINDER) divisor(tree.getRightOperand());
            return super.visitBinary(tree, nothing);
        }

        @Override
        public Void visitCompoundAssignment(CompoundAssignmentTree tree, Void nothing) {
            if (tree.getKind() == Tree.Kind.DIVIDE_ASSIGNMENT || tree.getKind() == Tree.Kind.REMAINDER_ASSIGNMENT) divisor(tree.getExpression());
            return super.visitCompoundAssignment(tree, nothing);
        }

        // Rules 3 and 5: which types there are, and that nothing static changes.
        @Override
        public Void visitVariable(VariableTree tree, Void nothing) {
            VariableElement variable = (VariableElement) trees.getElement(getCurrentPath());
            String type = variable.asType().toString();
            Due.is("rule 3, " + type + " " + variable, TYPES.contains(type) || type.startsWith("LeftShoes."), true);
            if (variable.getModifiers().contains(Modifier.STATIC)) Due.is("rule 5, constant " + variable, variable.getConstantValue() != null, true);
            return super.visitVariable(tree, nothing);
        }

        // Rule 7: a divisor is a constant that is not 0, or one of those that are tested.
        private void divisor(ExpressionTree by) {
            String shown = by.toString();
            String where = method == null ? "a field" : method.getSimpleName().toString();
            boolean constant = shown.matches("[1-9][0-9]*") || shown.matches("\\([A-Z_]+ \\+ 1\\)");
            Element element = trees.getElement(new TreePath(getCurrentPath(), by));
            if (element instanceof VariableElement v && v.getConstantValue() instanceof Integer n) constant = n != 0;
            Due.is("rule 7, the divisor of " + where + " by " + shown, constant || TESTED.contains(where + " by " + shown), true);
        }
    }
}
