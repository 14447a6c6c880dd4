import com.sun.source.tree.AssignmentTree;
import com.sun.source.tree.BinaryTree;
import com.sun.source.tree.BlockTree;
import com.sun.source.tree.ClassTree;
import com.sun.source.tree.CompilationUnitTree;
import com.sun.source.tree.CompoundAssignmentTree;
import com.sun.source.tree.ExpressionTree;
import com.sun.source.tree.MemberSelectTree;
import com.sun.source.tree.MethodInvocationTree;
import com.sun.source.tree.MethodTree;
import com.sun.source.tree.NewArrayTree;
import com.sun.source.tree.NewClassTree;
import com.sun.source.tree.Tree;
import com.sun.source.tree.TypeCastTree;
import com.sun.source.tree.VariableTree;
import com.sun.source.util.JavacTask;
import com.sun.source.util.TreePath;
import com.sun.source.util.TreePathScanner;
import com.sun.source.util.Trees;
import java.io.IOException;
import java.nio.file.Path;
import java.util.HashMap;
import java.util.HashSet;
import java.util.LinkedHashSet;
import java.util.List;
import java.util.Map;
import java.util.Set;
import java.util.TreeMap;
import javax.lang.model.element.Element;
import javax.lang.model.element.ElementKind;
import javax.lang.model.element.ExecutableElement;
import javax.lang.model.element.Modifier;
import javax.lang.model.element.TypeElement;
import javax.lang.model.type.ArrayType;
import javax.lang.model.type.TypeKind;
import javax.lang.model.type.TypeMirror;
import javax.tools.JavaCompiler;
import javax.tools.StandardJavaFileManager;
import javax.tools.ToolProvider;

/**
 * The rules of LANGUAGE.md that need the meaning of the source, by the compiler's own trees: what of the library is
 * called, how deep calls go, that none comes back to itself, which kinds of statements and types there are.
 */
public final class SourceTest {
    private static final Check CHECK = new Check("SourceTest");

    /** Rule 4, as far as a call of the library may be needed at all. */
    private static final Set<String> LIBRARY = Set.of("java.lang.String.length", "java.lang.String.charAt", "java.lang.String.isEmpty",
            "java.lang.String.equals", "java.lang.String.indexOf", "java.lang.String.substring", "java.lang.String.toCharArray",
            "java.lang.Math.min", "java.lang.Math.max", "java.lang.Math.abs", "java.lang.Math.floorMod", "java.lang.Math.floorDiv",
            "java.lang.System.arraycopy", "java.util.Arrays.fill", "java.util.Arrays.copyOf", "java.util.Arrays.copyOfRange",
            "java.lang.Object.<init>");

    private static final Set<Tree.Kind> RULED_OUT = Set.of(Tree.Kind.THROW, Tree.Kind.TRY, Tree.Kind.CATCH, Tree.Kind.SYNCHRONIZED,
            Tree.Kind.ASSERT, Tree.Kind.LAMBDA_EXPRESSION, Tree.Kind.MEMBER_REFERENCE, Tree.Kind.ANNOTATION, Tree.Kind.DOUBLE_LITERAL,
            Tree.Kind.FLOAT_LITERAL, Tree.Kind.ENUM, Tree.Kind.INTERFACE, Tree.Kind.ANNOTATION_TYPE, Tree.Kind.SWITCH_EXPRESSION,
            Tree.Kind.YIELD, Tree.Kind.INSTANCE_OF, Tree.Kind.WHILE_LOOP, Tree.Kind.DO_WHILE_LOOP);

    private static final int DEEPEST_CALL = 8;
    private static final int MOST_LINES = 60;
    private static final int MOST_CLASSES = 12;

    public static void main(String[] args) throws IOException {
        String source = args.length > 0 ? args[0] : "src/main/java/WordAlgebra.java";
        JavaCompiler compiler = ToolProvider.getSystemJavaCompiler();
        try (StandardJavaFileManager files = compiler.getStandardFileManager(null, null, null)) {
            JavacTask task = (JavacTask) compiler.getTask(null, files, null, List.of("-proc:none"), null,
                    files.getJavaFileObjects(Path.of(source)));
            CompilationUnitTree unit = task.parse().iterator().next();
            task.analyze();
            CHECK.due("no package", unit.getPackageName() == null, true);
            CHECK.due("one class stands outside all others", unit.getTypeDecls().size(), 1);
            Looker looker = new Looker(Trees.instance(task), unit);
            looker.scan(new TreePath(unit), null);
            CHECK.due("some twelve classes", looker.classes <= MOST_CLASSES, true);
            CHECK.due("methods were found", looker.calls.size() > 100, true);
            depths(looker.calls);
        }
        CHECK.end();
    }

    /** Rules 8 and 11: no method comes back to itself, and no chain of calls is longer than eight. */
    private static void depths(Map<String, Set<String>> calls) {
        Map<String, Integer> known = new HashMap<>();
        for (String method : calls.keySet()) {
            int depth = depthOf(method, calls, known, new HashSet<>());
            CHECK.due("calls below " + method + ": " + depth, depth <= DEEPEST_CALL, true);
        }
    }

    private static int depthOf(String method, Map<String, Set<String>> calls, Map<String, Integer> known, Set<String> open) {
        if (known.containsKey(method)) {
            return known.get(method);
        }
        if (!open.add(method)) {
            CHECK.due(method + " comes back to itself", true, false);
            return 1;
        }
        int most = 0;
        for (String other : calls.getOrDefault(method, Set.of())) {
            most = Math.max(most, depthOf(other, calls, known, open));
        }
        open.remove(method);
        known.put(method, most + 1);
        return most + 1;
    }

    private static final class Looker extends TreePathScanner<Void, Void> {
        private final Trees trees;
        private final CompilationUnitTree unit;
        private final Map<String, Set<String>> calls = new TreeMap<>();
        private int classes;
        private String method = "";

        Looker(Trees trees, CompilationUnitTree unit) {
            this.trees = trees;
            this.unit = unit;
        }

        private String at(Tree tree) {
            long place = trees.getSourcePositions().getStartPosition(unit, tree);
            return "line " + unit.getLineMap().getLineNumber(place) + ": ";
        }

        private long lineAt(Tree tree, boolean end) {
            var places = trees.getSourcePositions();
            return unit.getLineMap().getLineNumber(end ? places.getEndPosition(unit, tree) : places.getStartPosition(unit, tree));
        }

        private TypeMirror typeOf(Tree tree) {
            return trees.getTypeMirror(new TreePath(getCurrentPath(), tree));
        }

        private Element elementOf(Tree tree) {
            return trees.getElement(new TreePath(getCurrentPath(), tree));
        }

        private static String nameOf(Element e) {
            String parameters = e instanceof ExecutableElement call ? call.getParameters().size() + "" : "";
            return ((TypeElement) e.getEnclosingElement()).getQualifiedName() + "." + e.getSimpleName() + "/" + parameters;
        }

        private static boolean isOwn(Element e) {
            return ((TypeElement) e.getEnclosingElement()).getQualifiedName().toString().startsWith("WordAlgebra");
        }

        @Override
        public Void scan(Tree tree, Void nothing) {
            // Of while loops those are fine that go down by one with a bound of their own line.
            boolean isWhile = tree != null && tree.getKind() == Tree.Kind.WHILE_LOOP && tree.toString().contains("--");
            if (tree != null && RULED_OUT.contains(tree.getKind()) && !isWhile) {
                CHECK.due(at(tree) + tree.getKind(), true, false);
            }
            if (tree != null && tree.getKind() == Tree.Kind.FOR_LOOP) {
                CHECK.due(at(tree) + "a loop has an end", ((com.sun.source.tree.ForLoopTree) tree).getCondition() != null, true);
            }
            return super.scan(tree, nothing);
        }

        @Override
        public Void visitClass(ClassTree tree, Void nothing) {
            classes++;
            Element e = elementOf(tree);
            boolean outside = tree.getSimpleName().contentEquals("WordAlgebra");
            CHECK.due(at(tree) + tree.getSimpleName() + " is static or stands outside",
                    outside || e.getModifiers().contains(Modifier.STATIC), true);
            CHECK.due(at(tree) + tree.getSimpleName() + " has a name", tree.getSimpleName().length() > 0, true);
            CHECK.due(at(tree) + tree.getSimpleName() + " stands in the outside class", outside
                    || e.getEnclosingElement().getKind() == ElementKind.CLASS, true);
            for (Tree member : tree.getMembers()) {
                CHECK.due(at(member) + "no block of its own", member instanceof BlockTree, false);
            }
            return super.visitClass(tree, nothing);
        }

        @Override
        public Void visitMethod(MethodTree tree, Void nothing) {
            Element e = trees.getElement(getCurrentPath());
            if (e == null) {
                e = elementOf(tree);
            }
            String outer = method;
            method = nameOf(e);
            calls.putIfAbsent(method, new LinkedHashSet<>());
            CHECK.due(at(tree) + "lines of " + method, lineAt(tree, true) - lineAt(tree, false) < MOST_LINES, true);
            CHECK.due(at(tree) + "parameters of " + method, tree.getParameters().size() <= 7, true);
            CHECK.due(at(tree) + "throws", tree.getThrows().isEmpty(), true);
            super.visitMethod(tree, nothing);
            method = outer;
            return null;
        }

        @Override
        public Void visitMethodInvocation(MethodInvocationTree tree, Void nothing) {
            called(tree, elementOf(tree.getMethodSelect()));
            return super.visitMethodInvocation(tree, nothing);
        }

        private void called(Tree tree, Element e) {
            if (isOwn(e)) {
                calls.computeIfAbsent(method, m -> new LinkedHashSet<>()).add(nameOf(e));
                return;
            }
            String name = ((TypeElement) e.getEnclosingElement()).getQualifiedName() + "." + e.getSimpleName();
            CHECK.due(at(tree) + "library: " + name, LIBRARY.contains(name), true);
        }

        @Override
        public Void visitNewClass(NewClassTree tree, Void nothing) {
            CHECK.due(at(tree) + "no class without a name", tree.getClassBody() == null, true);
            Element e = trees.getElement(getCurrentPath());
            called(tree, e);
            return super.visitNewClass(tree, nothing);
        }

        @Override
        public Void visitNewArray(NewArrayTree tree, Void nothing) {
            CHECK.due(at(tree) + "rows are made in constructors alone", method.isEmpty() || method.contains("<init>"), true);
            return super.visitNewArray(tree, nothing);
        }

        @Override
        public Void visitMemberSelect(MemberSelectTree tree, Void nothing) {
            Element e = trees.getElement(getCurrentPath());
            boolean lengthOfArray = typeOf(tree.getExpression()) instanceof ArrayType;
            if (e != null && e.getKind() == ElementKind.FIELD && !lengthOfArray) {
                CHECK.due(at(tree) + "no field of the library: " + tree, isOwn(e), true);
            }
            return super.visitMemberSelect(tree, nothing);
        }

        @Override
        public Void visitVariable(VariableTree tree, Void nothing) {
            Element e = trees.getElement(getCurrentPath());
            allowed(tree, e.asType());
            Set<Modifier> how = e.getModifiers();
            if (e.getKind() == ElementKind.FIELD) {
                CHECK.due(at(tree) + "a static field is final", how.contains(Modifier.STATIC) && !how.contains(Modifier.FINAL), false);
                CHECK.due(at(tree) + "a static field is a constant", how.contains(Modifier.STATIC)
                        && e.asType().getKind() == TypeKind.DECLARED && !e.asType().toString().equals("java.lang.String"), false);
            }
            return super.visitVariable(tree, nothing);
        }

        /** Rule 3: one dimension of anything, two of numbers; no floats here. */
        private void allowed(Tree tree, TypeMirror type) {
            int dimensions = 0;
            TypeMirror inside = type;
            while (inside instanceof ArrayType array) {
                inside = array.getComponentType();
                dimensions++;
            }
            boolean number = inside.getKind().isPrimitive() && inside.getKind() != TypeKind.DOUBLE && inside.getKind() != TypeKind.FLOAT;
            boolean own = inside.toString().startsWith("WordAlgebra") || inside.toString().equals("java.lang.String");
            CHECK.due(at(tree) + "type " + type, number && dimensions <= 2 || own && dimensions <= 1, true);
        }

        @Override
        public Void visitTypeCast(TypeCastTree tree, Void nothing) {
            CHECK.due(at(tree) + "casts of numbers alone", typeOf(tree.getType()).getKind().isPrimitive(), true);
            return super.visitTypeCast(tree, nothing);
        }

        private boolean isText(ExpressionTree tree) {
            TypeMirror type = typeOf(tree);
            return type != null && type.toString().equals("java.lang.String");
        }

        @Override
        public Void visitBinary(BinaryTree tree, Void nothing) {
            CHECK.due(at(tree) + "no sums or comparisons of texts", isText(tree.getLeftOperand()) || isText(tree.getRightOperand()), false);
            boolean divides = tree.getKind() == Tree.Kind.DIVIDE || tree.getKind() == Tree.Kind.REMAINDER;
            if (divides) {
                divisor(tree, tree.getRightOperand());
            }
            return super.visitBinary(tree, nothing);
        }

        @Override
        public Void visitCompoundAssignment(CompoundAssignmentTree tree, Void nothing) {
            if (tree.getKind() == Tree.Kind.DIVIDE_ASSIGNMENT || tree.getKind() == Tree.Kind.REMAINDER_ASSIGNMENT) {
                divisor(tree, tree.getExpression());
            }
            return super.visitCompoundAssignment(tree, nothing);
        }

        /** A divisor is a number written out, or is compared in the same method ahead of it or in its own line. */
        private void divisor(Tree tree, ExpressionTree by) {
            String name = by.toString();
            boolean written = name.matches("[1-9][0-9]*");
            TreePath path = getCurrentPath();
            while (path != null && path.getLeaf().getKind() != Tree.Kind.METHOD) {
                path = path.getParentPath();
            }
            String inside = path == null ? "" : path.getLeaf().toString();
            boolean compared = inside.contains(name + " > ") || inside.contains(name + " <") || inside.contains(name + " = 2; ");
            CHECK.due(at(tree) + "divisor " + name, written || compared, true);
        }

        @Override
        public Void visitAssignment(AssignmentTree tree, Void nothing) {
            allowed(tree, typeOf(tree.getVariable()));
            return super.visitAssignment(tree, nothing);
        }
    }
}
