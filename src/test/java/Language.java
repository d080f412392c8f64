import com.sun.source.tree.AssertTree;
import com.sun.source.tree.BinaryTree;
import com.sun.source.tree.BlockTree;
import com.sun.source.tree.CatchTree;
import com.sun.source.tree.ClassTree;
import com.sun.source.tree.CompilationUnitTree;
import com.sun.source.tree.CompoundAssignmentTree;
import com.sun.source.tree.ExpressionTree;
import com.sun.source.tree.ImportTree;
import com.sun.source.tree.LambdaExpressionTree;
import com.sun.source.tree.LiteralTree;
import com.sun.source.tree.MemberReferenceTree;
import com.sun.source.tree.MethodInvocationTree;
import com.sun.source.tree.MethodTree;
import com.sun.source.tree.NewClassTree;
import com.sun.source.tree.SynchronizedTree;
import com.sun.source.tree.ThrowTree;
import com.sun.source.tree.Tree;
import com.sun.source.tree.TryTree;
import com.sun.source.tree.TypeCastTree;
import com.sun.source.tree.VariableTree;
import com.sun.source.util.JavacTask;
import com.sun.source.util.SourcePositions;
import com.sun.source.util.TreePath;
import com.sun.source.util.TreePathScanner;
import com.sun.source.util.Trees;
import java.io.IOException;
import java.io.UncheckedIOException;
import java.net.URI;
import java.util.HashSet;
import java.util.LinkedHashMap;
import java.util.List;
import java.util.Map;
import java.util.Set;
import java.util.TreeSet;
import javax.lang.model.element.Element;
import javax.lang.model.element.ElementKind;
import javax.lang.model.element.Modifier;
import javax.lang.model.element.TypeElement;
import javax.lang.model.element.VariableElement;
import javax.lang.model.type.TypeMirror;
import javax.tools.JavaFileObject;
import javax.tools.SimpleJavaFileObject;
import javax.tools.ToolProvider;

/**
 * Holds a source against the rules of LANGUAGE.md that can be read from its tree. It is stricter
 * than the rules where the class needs less than they leave.
 */
final class Language extends TreePathScanner<Void, Void> {
    private static final int MOST_PARAMETERS = 7;
    private static final int MOST_LINES = 60;
    private static final int MOST_CLASSES = 12;
    private static final int MOST_FIELDS = 20;
    private static final int MOST_DEEP = 8;
    private static final Set<String> EXCEPTIONS = Set.of("IllegalStateException",
        "IllegalArgumentException", "IndexOutOfBoundsException", "ArithmeticException",
        "UnsupportedOperationException", "NoSuchElementException", "RuntimeException");
    private static final Set<String> LIBRARY = Set.of("Math.max", "Math.min", "Math.abs",
        "ArrayList.add", "ArrayList.get", "ArrayList.set", "ArrayList.remove", "ArrayList.size",
        "ArrayList.isEmpty", "ArrayList.clear");
    private static final Set<String> IMPORTS = Set.of("java.util.ArrayList",
        "java.util.NoSuchElementException");
    private static final Set<String> PLAIN = Set.of("int", "long", "short", "byte", "char",
        "boolean", "java.lang.String");

    private final Trees trees;
    private final Map<Element, Set<Element>> calls = new LinkedHashMap<>();
    private final Set<String> faults = new TreeSet<>();
    private int classes;
    private Element method;

    private Language(Trees trees) {
        this.trees = trees;
    }

    /** What a source of the class does against the rules; empty if it keeps to them. */
    static Set<String> faults(String source) {
        JavaFileObject file = new SimpleJavaFileObject(URI.create("string:///SetWorkshop.java"),
            JavaFileObject.Kind.SOURCE) {
            @Override
            public CharSequence getCharContent(boolean ignored) {
                return source;
            }
        };
        JavacTask task = (JavacTask) ToolProvider.getSystemJavaCompiler().getTask(null, null, null,
            List.of("-proc:none"), null, List.of(file));
        try {
            CompilationUnitTree unit = task.parse().iterator().next();
            task.analyze();
            Language language = new Language(Trees.instance(task));
            language.scan(unit, null);
            language.lookAtWhole(source);
            return language.faults;
        } catch (IOException e) {
            throw new UncheckedIOException(e);
        }
    }

    private void fault(int rule, String words) {
        faults.add("rule " + rule + ": " + words);
    }

    private void lookAtWhole(String source) {
        if (source.chars().anyMatch(c -> c < 1 || c > 127)) {
            fault(4, "a sign that is not 1 to 127");
        }
        if (classes > MOST_CLASSES) {
            fault(11, classes + " classes");
        }
        for (Element e : calls.keySet()) {
            if (deep(e, new HashSet<>()) > MOST_DEEP) {
                fault(11, e + " goes too deep");
            }
        }
    }

    private int deep(Element e, Set<Element> open) {
        if (!open.add(e)) {
            fault(8, e + " comes back to itself");
            return 0;
        }
        int most = 0;
        for (Element called : calls.getOrDefault(e, Set.of())) {
            most = Math.max(most, deep(called, open));
        }
        open.remove(e);
        return most + 1;
    }

    @Override
    public Void visitImport(ImportTree tree, Void v) {
        if (!IMPORTS.contains(tree.getQualifiedIdentifier().toString())) {
            fault(4, "import of " + tree.getQualifiedIdentifier());
        }
        return super.visitImport(tree, v);
    }

    @Override
    public Void visitClass(ClassTree tree, Void v) {
        classes++;
        int fields = 0;
        for (Tree member : tree.getMembers()) {
            if (member instanceof BlockTree) {
                fault(5, "an initialiser block");
            }
            if (member instanceof VariableTree field
                && !field.getModifiers().getFlags().contains(Modifier.STATIC)) {
                fields++;
            }
        }
        if (fields > MOST_FIELDS) {
            fault(11, tree.getSimpleName() + " has " + fields + " fields");
        }
        return super.visitClass(tree, v);
    }

    @Override
    public Void visitVariable(VariableTree tree, Void v) {
        Set<Modifier> flags = tree.getModifiers().getFlags();
        TypeMirror type = trees.getTypeMirror(getCurrentPath());
        if (flags.contains(Modifier.STATIC)
            && (!flags.contains(Modifier.FINAL) || !PLAIN.contains(type.toString()))) {
            fault(5, "static " + tree.getName());
        }
        if (!isAllowed(type.toString())) {
            fault(3, type + " " + tree.getName());
        }
        return super.visitVariable(tree, v);
    }

    private static boolean isAllowed(String type) {
        String bare = type.replaceAll("(\\[\\])?$", "");
        return PLAIN.contains(bare) || bare.matches("SetWorkshop(\\.\\w+)?")
            || bare.matches("java\\.util\\.ArrayList<(SetWorkshop\\.\\w+|java\\.lang\\.Integer)>");
    }

    @Override
    public Void visitMethod(MethodTree tree, Void v) {
        Element outer = method;
        method = trees.getElement(getCurrentPath());
        calls.putIfAbsent(method, new HashSet<>());
        if (tree.getParameters().size() > MOST_PARAMETERS) {
            fault(11, method + " has too many parameters");
        }
        CompilationUnitTree unit = getCurrentPath().getCompilationUnit();
        SourcePositions places = trees.getSourcePositions();
        long first = unit.getLineMap().getLineNumber(places.getStartPosition(unit, tree));
        long end = places.getEndPosition(unit, tree);
        if (end >= 0 && unit.getLineMap().getLineNumber(end) - first >= MOST_LINES) {
            fault(11, method + " is too long");
        }
        super.visitMethod(tree, v);
        method = outer;
        return null;
    }

    @Override
    public Void visitMethodInvocation(MethodInvocationTree tree, Void v) {
        call(trees.getElement(getCurrentPath()));
        return super.visitMethodInvocation(tree, v);
    }

    @Override
    public Void visitNewClass(NewClassTree tree, Void v) {
        Element maker = trees.getElement(getCurrentPath());
        String type = ((TypeElement) maker.getEnclosingElement()).getSimpleName().toString();
        if (isOwn(maker)) {
            call(maker);
        } else if (!type.equals("ArrayList") && !EXCEPTIONS.contains(type)) {
            fault(4, "new " + type);
        }
        return super.visitNewClass(tree, v);
    }

    private void call(Element called) {
        if (isOwn(called)) {
            calls.computeIfAbsent(method, m -> new HashSet<>()).add(called);
        } else if (called.getKind() != ElementKind.CONSTRUCTOR) {
            String name = called.getEnclosingElement().getSimpleName() + "." + called.getSimpleName();
            if (!LIBRARY.contains(name)) {
                fault(4, "call of " + name);
            }
        }
    }

    private static boolean isOwn(Element e) {
        return e.getEnclosingElement().toString().startsWith("SetWorkshop");
    }

    @Override
    public Void visitThrow(ThrowTree tree, Void v) {
        if (method == null || method.getKind() == ElementKind.CONSTRUCTOR) {
            fault(6, "a throw in a constructor");
        }
        if (!(tree.getExpression() instanceof NewClassTree made)
            || !EXCEPTIONS.contains(made.getIdentifier().toString())
            || made.getArguments().size() > 1
            || !made.getArguments().stream().allMatch(a -> a instanceof LiteralTree)) {
            fault(6, tree.toString());
        }
        return super.visitThrow(tree, v);
    }

    @Override
    public Void visitTry(TryTree tree, Void v) {
        if (tree.getFinallyBlock() != null || !tree.getResources().isEmpty()) {
            fault(6, "finally, or try with resources");
        }
        return super.visitTry(tree, v);
    }

    @Override
    public Void visitCatch(CatchTree tree, Void v) {
        // Nothing that the class calls throws but the calls of its own face, so it catches nothing.
        fault(6, "a catch");
        return super.visitCatch(tree, v);
    }

    @Override
    public Void visitLambdaExpression(LambdaExpressionTree tree, Void v) {
        fault(2, "a lambda");
        return super.visitLambdaExpression(tree, v);
    }

    @Override
    public Void visitMemberReference(MemberReferenceTree tree, Void v) {
        fault(2, "a method reference");
        return super.visitMemberReference(tree, v);
    }

    @Override
    public Void visitSynchronized(SynchronizedTree tree, Void v) {
        fault(6, "synchronized");
        return super.visitSynchronized(tree, v);
    }

    @Override
    public Void visitAssert(AssertTree tree, Void v) {
        fault(6, "assert");
        return super.visitAssert(tree, v);
    }

    @Override
    public Void visitTypeCast(TypeCastTree tree, Void v) {
        if (!trees.getTypeMirror(new TreePath(getCurrentPath(), tree.getType())).getKind()
            .isPrimitive()) {
            fault(6, "a cast that may throw: " + tree);
        }
        return super.visitTypeCast(tree, v);
    }

    @Override
    public Void visitBinary(BinaryTree tree, Void v) {
        joins(tree.getLeftOperand());
        joins(tree.getRightOperand());
        divides(tree.getKind(), tree.getRightOperand());
        return super.visitBinary(tree, v);
    }

    @Override
    public Void visitCompoundAssignment(CompoundAssignmentTree tree, Void v) {
        joins(tree.getVariable());
        divides(tree.getKind(), tree.getExpression());
        return super.visitCompoundAssignment(tree, v);
    }

    private void joins(ExpressionTree part) {
        TypeMirror type = trees.getTypeMirror(new TreePath(getCurrentPath(), part));
        if (type.toString().equals("java.lang.String")) {
            fault(10, "texts joined or compared: " + part);
        }
    }

    /** A divisor is a number written out, or one whose test stands in the same method. */
    private void divides(Tree.Kind kind, ExpressionTree divisor) {
        boolean division = List.of(Tree.Kind.DIVIDE, Tree.Kind.REMAINDER,
            Tree.Kind.DIVIDE_ASSIGNMENT, Tree.Kind.REMAINDER_ASSIGNMENT).contains(kind);
        if (!division || divisor instanceof LiteralTree || isConstant(divisor)) {
            return;
        }
        TreePath path = getCurrentPath();
        while (path != null && !(path.getLeaf() instanceof MethodTree)) {
            path = path.getParentPath();
        }
        if (path == null || !path.getLeaf().toString().contains("if (" + divisor + " <= 0)")) {
            fault(7, "a divisor that is not looked at: " + divisor);
        }
    }

    private boolean isConstant(ExpressionTree e) {
        return trees.getElement(new TreePath(getCurrentPath(), e))
            instanceof VariableElement named
            && named.getConstantValue() != null
            && ((Number) named.getConstantValue()).longValue() != 0;
    }
}
