import com.sun.source.tree.BinaryTree;
import com.sun.source.tree.BlockTree;
import com.sun.source.tree.ClassTree;
import com.sun.source.tree.CompilationUnitTree;
import com.sun.source.tree.CompoundAssignmentTree;
import com.sun.source.tree.IdentifierTree;
import com.sun.source.tree.LiteralTree;
import com.sun.source.tree.MethodInvocationTree;
import com.sun.source.tree.MethodTree;
import com.sun.source.tree.NewClassTree;
import com.sun.source.tree.Tree;
import com.sun.source.tree.TypeCastTree;
import com.sun.source.tree.VariableTree;
import com.sun.source.util.JavacTask;
import com.sun.source.util.TreePath;
import com.sun.source.util.TreePathScanner;
import com.sun.source.util.Trees;
import java.nio.file.Path;
import java.util.ArrayList;
import java.util.HashMap;
import java.util.LinkedHashSet;
import java.util.List;
import java.util.Map;
import java.util.Set;
import javax.lang.model.element.Element;
import javax.lang.model.element.ExecutableElement;
import javax.lang.model.element.Modifier;
import javax.lang.model.type.TypeMirror;
import javax.tools.JavaCompiler;
import javax.tools.StandardJavaFileManager;
import javax.tools.ToolProvider;

/** The rules of LANGUAGE.md that only the compiler's own reading of the class can tell. Runs at the project's root. */
public final class RulesTest {
    /** Rule 4, as far as it is used; what comes anew is held against the rule by whoever adds it here. */
    private static final Set<String> LIBRARY = Set.of("java.lang.String.length", "java.lang.String.charAt",
        "java.lang.Integer.bitCount", "java.lang.Math.max", "java.lang.Math.min", "java.util.Arrays.fill");
    /** Rule 3, as far as it is used. */
    private static final Set<String> TYPES = Set.of("int", "long", "byte", "boolean", "java.lang.String",
        "int[]", "long[]", "byte[]", "boolean[]");
    /** Rule 11. */
    private static final int DEEPEST = 8;

    private final Check check = new Check();
    private final Map<Element, Set<Element>> calls = new HashMap<>();
    private Trees trees;

    public static void main(String[] args) throws Exception {
        RulesTest test = new RulesTest();
        test.readClass();
        test.depthOfCalls();
        test.check.finish("RulesTest");
    }

    private void readClass() throws Exception {
        JavaCompiler compiler = ToolProvider.getSystemJavaCompiler();
        try (StandardJavaFileManager files = compiler.getStandardFileManager(null, null, null)) {
            JavacTask task = (JavacTask) compiler.getTask(null, files, null, List.of("-proc:none"), null,
                files.getJavaFileObjects(Path.of("src/main/java/SeasonBound.java")));
            trees = Trees.instance(task);
            Iterable<? extends CompilationUnitTree> units = task.parse();
            task.analyze();
            for (CompilationUnitTree unit : units) {
                new Scanner().scan(unit, null);
            }
        }
        check.holds("methods were found", calls.size() > 60);
    }

    private static boolean isOwn(TypeMirror type) {
        return type.toString().replace("[]", "").matches("SeasonBound(\\.\\w+)?");
    }

    private final class Scanner extends TreePathScanner<Void, Void> {
        private ExecutableElement method;

        private Element here() {
            return trees.getElement(getCurrentPath());
        }

        private String where(Tree tree) {
            CompilationUnitTree unit = getCurrentPath().getCompilationUnit();
            long at = trees.getSourcePositions().getStartPosition(unit, tree);
            return "line " + unit.getLineMap().getLineNumber(at) + ": " + tree.toString().lines().findFirst().orElse("");
        }

        /** A constructor may call its own methods, since nobody can override those of a final class. */
        @Override
        public Void visitClass(ClassTree tree, Void none) {
            check.holds("rule 12, a class that is final: " + tree.getSimpleName(),
                tree.getModifiers().getFlags().contains(Modifier.FINAL));
            return super.visitClass(tree, none);
        }

        @Override
        public Void visitMethod(MethodTree tree, Void none) {
            method = (ExecutableElement) here();
            calls.putIfAbsent(method, new LinkedHashSet<>());
            super.visitMethod(tree, none);
            method = null;
            return null;
        }

        @Override
        public Void visitMethodInvocation(MethodInvocationTree tree, Void none) {
            ExecutableElement called = (ExecutableElement) here();
            TypeMirror owner = called.getEnclosingElement().asType();
            if (isOwn(owner)) {
                calls.computeIfAbsent(method, m -> new LinkedHashSet<>()).add(called);
            } else if (!called.getSimpleName().contentEquals("<init>")) {
                String name = owner + "." + called.getSimpleName();
                check.holds("rule 4, the library: " + where(tree), LIBRARY.contains(name));
            }
            return super.visitMethodInvocation(tree, none);
        }

        /** All that the class makes, it makes in constructors and initialisers. */
        @Override
        public Void visitNewClass(NewClassTree tree, Void none) {
            calls.computeIfAbsent(method, m -> new LinkedHashSet<>()).add(here());
            boolean inConstructor = method == null || method.getSimpleName().contentEquals("<init>");
            check.holds("rule 12, rows are made by constructors: " + where(tree), inConstructor);
            check.holds("rule 12, a constructor hands out nothing: " + where(tree), tree.getArguments().isEmpty());
            check.holds("rule 2, no class without a name: " + where(tree), tree.getClassBody() == null);
            return super.visitNewClass(tree, none);
        }

        @Override
        public Void visitIdentifier(IdentifierTree tree, Void none) {
            check.holds("rule 12, nobody is handed the object itself: " + where(tree),
                !tree.getName().contentEquals("this"));
            return super.visitIdentifier(tree, none);
        }

        @Override
        public Void visitBlock(BlockTree tree, Void none) {
            boolean initialiser = getCurrentPath().getParentPath().getLeaf() instanceof ClassTree;
            check.holds("rule 5, no initialiser block: " + where(tree), !initialiser);
            return super.visitBlock(tree, none);
        }

        @Override
        public Void visitVariable(VariableTree tree, Void none) {
            TypeMirror type = here().asType();
            check.holds("rule 3, types: " + where(tree), isOwn(type) || TYPES.contains(type.toString()));
            boolean isStatic = tree.getModifiers().getFlags().contains(Modifier.STATIC);
            check.holds("rule 5, a static is a constant: " + where(tree),
                !isStatic || tree.getInitializer() != null && type.getKind().isPrimitive());
            return super.visitVariable(tree, none);
        }

        @Override
        public Void visitTypeCast(TypeCastTree tree, Void none) {
            check.holds("rule 6, casts among numbers alone: " + where(tree), typeOf(tree.getExpression()).getKind().isPrimitive());
            return super.visitTypeCast(tree, none);
        }

        @Override
        public Void visitBinary(BinaryTree tree, Void none) {
            boolean numbers = typeOf(tree.getLeftOperand()).getKind().isPrimitive()
                && typeOf(tree.getRightOperand()).getKind().isPrimitive();
            check.holds("rules 6 and 10, numbers are joined and compared, no texts: " + where(tree), numbers);
            if (tree.getKind() == Tree.Kind.DIVIDE || tree.getKind() == Tree.Kind.REMAINDER) {
                divides(tree, tree.getRightOperand());
            }
            return super.visitBinary(tree, none);
        }

        @Override
        public Void visitCompoundAssignment(CompoundAssignmentTree tree, Void none) {
            check.holds("rule 10, texts: " + where(tree), typeOf(tree.getVariable()).getKind().isPrimitive());
            if (tree.getKind() == Tree.Kind.DIVIDE_ASSIGNMENT || tree.getKind() == Tree.Kind.REMAINDER_ASSIGNMENT) {
                divides(tree, tree.getExpression());
            }
            return super.visitCompoundAssignment(tree, none);
        }

        /** Rule 7: a divisor is a constant above 0, or the method that divides looks at it. */
        private void divides(Tree tree, Tree divisor) {
            TreePath path = new TreePath(getCurrentPath(), divisor);
            Object constant = divisor instanceof LiteralTree literal ? literal.getValue()
                : trees.getElement(path) instanceof javax.lang.model.element.VariableElement v ? v.getConstantValue() : null;
            String body = trees.getTree(method).getBody().toString();
            check.holds("rule 7, a divisor: " + where(tree), constant != null ? ((Number) constant).longValue() > 0
                : body.contains(divisor + " == 0") || body.contains(divisor + " != 0"));
        }

        private TypeMirror typeOf(Tree tree) {
            return trees.getTypeMirror(new TreePath(getCurrentPath(), tree));
        }
    }

    /** Rules 8 and 11: no method comes to itself again, and none stands more than eight deep. */
    private void depthOfCalls() {
        for (Element from : calls.keySet()) {
            descend(new ArrayList<>(), from);
        }
    }

    private void descend(List<Element> open, Element next) {
        if (open.contains(next) || open.size() == DEEPEST) {
            check.holds("rules 8 and 11, calls: " + open + " " + next, false);
            return;
        }
        open.add(next);
        for (Element called : calls.getOrDefault(next, Set.of())) {
            descend(open, called);
        }
        open.remove(open.size() - 1);
    }
}
