import com.sun.source.tree.ArrayAccessTree;
import com.sun.source.tree.AssertTree;
import com.sun.source.tree.BinaryTree;
import com.sun.source.tree.BlockTree;
import com.sun.source.tree.ClassTree;
import com.sun.source.tree.CompilationUnitTree;
import com.sun.source.tree.CompoundAssignmentTree;
import com.sun.source.tree.DoWhileLoopTree;
import com.sun.source.tree.ExpressionTree;
import com.sun.source.tree.ForLoopTree;
import com.sun.source.tree.IdentifierTree;
import com.sun.source.tree.LambdaExpressionTree;
import com.sun.source.tree.LiteralTree;
import com.sun.source.tree.MemberReferenceTree;
import com.sun.source.tree.MemberSelectTree;
import com.sun.source.tree.MethodInvocationTree;
import com.sun.source.tree.MethodTree;
import com.sun.source.tree.NewArrayTree;
import com.sun.source.tree.NewClassTree;
import com.sun.source.tree.SynchronizedTree;
import com.sun.source.tree.ThrowTree;
import com.sun.source.tree.Tree;
import com.sun.source.tree.TryTree;
import com.sun.source.tree.TypeCastTree;
import com.sun.source.tree.VariableTree;
import com.sun.source.tree.WhileLoopTree;
import com.sun.source.util.TreePath;
import com.sun.source.util.TreePathScanner;
import com.sun.source.util.Trees;
import java.util.ArrayList;
import java.util.HashMap;
import java.util.HashSet;
import java.util.List;
import java.util.Map;
import java.util.Set;
import javax.lang.model.element.Element;
import javax.lang.model.element.ElementKind;
import javax.lang.model.element.Modifier;
import javax.lang.model.element.VariableElement;
import javax.lang.model.type.ArrayType;
import javax.lang.model.type.TypeMirror;

/**
 * Goes through a source as the compiler reads it, and tells what breaks a rule of LANGUAGE.md. It is harder than the rules
 * where the class does not use what they allow (lists, generic classes, doubles, recursion, while).
 */
final class SourceReader extends TreePathScanner<Void, Void> {
    private static final int MOST_PARAMETERS = 7, MOST_LINES = 60, MOST_DEEP = 8, MOST_CLASSES = 12, MOST_FIELDS = 20;
    private static final Set<String> LIBRARY = Set.of("Integer.bitCount", "Math.min", "Math.max", "Math.abs", "Arrays.fill",
        "Arrays.copyOf", "Arrays.copyOfRange", "System.arraycopy", "String.length", "String.charAt");
    private static final Set<String> TYPES = Set.of("int", "long", "short", "byte", "char", "boolean", "void", "java.lang.String");
    private static final Set<String> CONSTANTS = Set.of("int", "long", "boolean", "char", "java.lang.String", "int[]", "long[]",
        "char[]", "byte[]");
    /** Where a row is looked into by number, or divided by what is no constant: each stands behind a test, seen by eye. */
    private static final Set<String> TESTED = Set.of("cell: row[i]", "put: row[i]", "Row: moments[i]", "momentAt: moments[i]",
        "forgetFirst: moments[i]", "forgetFirst: moments[i + 1]", "forgetFirst: moments[last]",
        "commonDivisor: a % b", "fraction: above / common", "fraction: below / common");

    private final Trees trees;
    private final List<String> broken = new ArrayList<>();
    private final Map<Element, Set<Element>> calls = new HashMap<>();
    private CompilationUnitTree unit;
    private int classes = 0;

    SourceReader(Trees trees) {
        this.trees = trees;
    }

    List<String> broken() {
        return broken;
    }

    void read(CompilationUnitTree file) {
        unit = file;
        scan(file, null);
        if (file.getPackage() != null) broken.add("rule 1: there is a package");
        if (classes > MOST_CLASSES) broken.add("rule 11: there are " + classes + " classes");
        for (Element method : calls.keySet()) depthFrom(method);
        privateNames();
    }

    private void must(int rule, boolean is, Tree where) {
        if (is) return;
        long line = unit.getLineMap().getLineNumber(trees.getSourcePositions().getStartPosition(unit, where));
        broken.add("rule " + rule + ": line " + line + ": " + where.toString().lines().findFirst().orElse(""));
    }

    private Element element() {
        return trees.getElement(getCurrentPath());
    }

    private TypeMirror type(Tree tree) {
        return trees.getTypeMirror(new TreePath(getCurrentPath(), tree));
    }

    private boolean isOwn(Element e) {
        Element outermost = e;
        while (outermost != null && outermost.getEnclosingElement() != null
            && outermost.getEnclosingElement().getKind() != ElementKind.PACKAGE) outermost = outermost.getEnclosingElement();
        return outermost != null && outermost.getSimpleName().contentEquals("ManholeBirths");
    }

    private boolean isOwnType(TypeMirror type) {
        TypeMirror inner = type instanceof ArrayType array ? array.getComponentType() : type;
        return inner instanceof javax.lang.model.type.DeclaredType declared && isOwn(declared.asElement());
    }

    /** The method, constructor or class (for a field's first value) that the path stands in. */
    private Element around() {
        for (TreePath path = getCurrentPath(); path != null; path = path.getParentPath()) {
            if (path.getLeaf() instanceof MethodTree || path.getLeaf() instanceof ClassTree) return trees.getElement(path);
        }
        return null;
    }

    private String placed(Tree tree) {
        Element around = around();
        Element named = around.getKind() == ElementKind.CONSTRUCTOR ? around.getEnclosingElement() : around;
        return named.getSimpleName() + ": " + tree;
    }

    /** Made with the object, not by a call on it. */
    private boolean isMaking() {
        return around().getKind() == ElementKind.CONSTRUCTOR || around().getKind().isClass();
    }

    // ---- classes, fields, methods

    @Override
    public Void visitClass(ClassTree node, Void none) {
        classes++;
        Element e = element();
        boolean isNested = e.getEnclosingElement().getKind() != ElementKind.PACKAGE;
        if (isNested) {
            must(2, e.getEnclosingElement().getKind().isClass() && !node.getSimpleName().isEmpty(), node);
            must(2, e.getModifiers().contains(Modifier.STATIC), node);
            must(1, !e.getModifiers().contains(Modifier.PUBLIC) && !e.getModifiers().contains(Modifier.PROTECTED), node);
        }
        int fields = 0;
        for (Tree member : node.getMembers()) {
            if (member instanceof BlockTree) must(5, false, member);
            if (member instanceof VariableTree field && !field.getModifiers().getFlags().contains(Modifier.STATIC)) fields++;
        }
        if (fields > MOST_FIELDS) broken.add("rule 11: " + node.getSimpleName() + " has " + fields + " fields");
        return super.visitClass(node, none);
    }

    private void visibleOnlyInside(Tree node, Element e) {
        boolean isFace = e.getEnclosingElement().getEnclosingElement().getKind() == ElementKind.PACKAGE;
        boolean isShown = e.getModifiers().contains(Modifier.PUBLIC) || e.getModifiers().contains(Modifier.PRIVATE);
        must(1, !isFace || isShown, node);
    }

    @Override
    public Void visitVariable(VariableTree node, Void none) {
        Element e = element();
        TypeMirror type = e.asType();
        String name = type.toString();
        boolean isRow = name.endsWith("[]") && !name.endsWith("[][][]") && TYPES.contains(name.replace("[]", ""));
        must(3, TYPES.contains(name) || isRow || isOwnType(type), node);
        if (e.getKind() == ElementKind.FIELD) {
            visibleOnlyInside(node, e);
            boolean isStatic = e.getModifiers().contains(Modifier.STATIC);
            must(5, !isStatic || e.getModifiers().contains(Modifier.FINAL) && CONSTANTS.contains(name), node);
        }
        return super.visitVariable(node, none);
    }

    @Override
    public Void visitMethod(MethodTree node, Void none) {
        Element e = element();
        calls.computeIfAbsent(e, any -> new HashSet<>());
        visibleOnlyInside(node, e);
        must(11, node.getParameters().size() <= MOST_PARAMETERS, node);
        must(6, !Set.of("equals", "hashCode", "toString").contains(node.getName().toString()), node);
        must(6, node.getThrows().isEmpty(), node);
        long begin = trees.getSourcePositions().getStartPosition(unit, node);
        long end = trees.getSourcePositions().getEndPosition(unit, node);
        if (end >= 0) must(11, unit.getLineMap().getLineNumber(end) - unit.getLineMap().getLineNumber(begin) < MOST_LINES, node);
        return super.visitMethod(node, none);
    }

    /** No private method bears the name of a public one. */
    private void privateNames() {
        Set<String> shown = new HashSet<>();
        for (Element e : calls.keySet()) {
            if (e.getKind() == ElementKind.METHOD && e.getModifiers().contains(Modifier.PUBLIC)) shown.add(e.getSimpleName().toString());
        }
        for (Element e : calls.keySet()) {
            boolean isHidden = !e.getModifiers().contains(Modifier.PUBLIC);
            if (isHidden && shown.contains(e.getSimpleName().toString())) broken.add("rule 1: a hidden method is named " + e);
        }
    }

    // ---- calls

    /** How many calls stand open at most in this one; more than are allowed, if one calls itself. */
    private int depthFrom(Element method) {
        int deep = depthFrom(method, new ArrayList<>());
        if (deep > MOST_DEEP) broken.add("rule 11: calls from " + method + " go " + deep + " deep");
        return deep;
    }

    private int depthFrom(Element method, List<Element> open) {
        if (open.contains(method)) {
            broken.add("rule 8: " + method + " calls itself");
            return 0;
        }
        open.add(method);
        int deepest = 0;
        for (Element called : calls.getOrDefault(method, Set.of())) deepest = Math.max(deepest, depthFrom(called, open));
        open.remove(method);
        return deepest + 1;
    }

    private void called(Element e) {
        calls.computeIfAbsent(around(), any -> new HashSet<>()).add(e);
    }

    @Override
    public Void visitMethodInvocation(MethodInvocationTree node, Void none) {
        Element e = element();
        boolean isParent = e.getKind() == ElementKind.CONSTRUCTOR;
        if (isOwn(e)) called(e);
        else must(4, isParent || LIBRARY.contains(e.getEnclosingElement().getSimpleName() + "." + e.getSimpleName()), node);
        return super.visitMethodInvocation(node, none);
    }

    @Override
    public Void visitNewClass(NewClassTree node, Void none) {
        Element e = element();
        must(2, node.getClassBody() == null, node);
        must(4, isOwn(e), node);
        must(12, isMaking(), node);
        called(e);
        return super.visitNewClass(node, none);
    }

    @Override
    public Void visitIdentifier(IdentifierTree node, Void none) {
        boolean isThis = node.getName().contentEquals("this");
        must(12, !isThis || getCurrentPath().getParentPath().getLeaf() instanceof MemberSelectTree, node);
        return super.visitIdentifier(node, none);
    }

    // ---- what the machine could throw at

    private boolean isConstant(ExpressionTree tree) {
        if (tree instanceof LiteralTree) return true;
        Element e = trees.getElement(new TreePath(getCurrentPath(), tree));
        return e instanceof VariableElement variable && variable.getConstantValue() != null;
    }

    @Override
    public Void visitNewArray(NewArrayTree node, Void none) {
        must(12, isMaking(), node);
        if (node.getDimensions() != null) {
            for (ExpressionTree length : node.getDimensions()) must(7, isConstant(length), node);
        }
        return super.visitNewArray(node, none);
    }

    @Override
    public Void visitArrayAccess(ArrayAccessTree node, Void none) {
        must(7, TESTED.contains(placed(node)), node);
        return super.visitArrayAccess(node, none);
    }

    private void divides(Tree node, ExpressionTree by) {
        boolean isNumber = by instanceof LiteralTree literal && literal.getValue() instanceof Integer number && number != 0;
        must(7, isNumber || TESTED.contains(placed(node)), node);
    }

    @Override
    public Void visitBinary(BinaryTree node, Void none) {
        Tree.Kind kind = node.getKind();
        if (kind == Tree.Kind.DIVIDE || kind == Tree.Kind.REMAINDER) divides(node, node.getRightOperand());
        String left = "" + type(node.getLeftOperand()), right = "" + type(node.getRightOperand());
        boolean isOfTexts = left.equals("java.lang.String") || right.equals("java.lang.String");
        if (kind == Tree.Kind.PLUS) must(10, !isOfTexts, node);
        if (kind == Tree.Kind.EQUAL_TO || kind == Tree.Kind.NOT_EQUAL_TO) must(6, !isOfTexts, node);
        return super.visitBinary(node, none);
    }

    @Override
    public Void visitCompoundAssignment(CompoundAssignmentTree node, Void none) {
        Tree.Kind kind = node.getKind();
        if (kind == Tree.Kind.DIVIDE_ASSIGNMENT || kind == Tree.Kind.REMAINDER_ASSIGNMENT) divides(node, node.getExpression());
        return super.visitCompoundAssignment(node, none);
    }

    @Override
    public Void visitTypeCast(TypeCastTree node, Void none) {
        must(6, type(node.getType()).getKind().isPrimitive(), node);
        return super.visitTypeCast(node, none);
    }

    // ---- what is not there

    @Override
    public Void visitForLoop(ForLoopTree node, Void none) {
        must(9, node.getCondition() != null && node.getUpdate().size() == 1, node);
        return super.visitForLoop(node, none);
    }

    @Override
    public Void visitWhileLoop(WhileLoopTree node, Void none) {
        must(9, false, node);
        return super.visitWhileLoop(node, none);
    }

    @Override
    public Void visitDoWhileLoop(DoWhileLoopTree node, Void none) {
        must(9, false, node);
        return super.visitDoWhileLoop(node, none);
    }

    @Override
    public Void visitLambdaExpression(LambdaExpressionTree node, Void none) {
        must(2, false, node);
        return super.visitLambdaExpression(node, none);
    }

    @Override
    public Void visitMemberReference(MemberReferenceTree node, Void none) {
        must(2, false, node);
        return super.visitMemberReference(node, none);
    }

    @Override
    public Void visitThrow(ThrowTree node, Void none) {
        must(6, false, node);
        return super.visitThrow(node, none);
    }

    @Override
    public Void visitTry(TryTree node, Void none) {
        must(6, false, node);
        return super.visitTry(node, none);
    }

    @Override
    public Void visitSynchronized(SynchronizedTree node, Void none) {
        must(6, false, node);
        return super.visitSynchronized(node, none);
    }

    @Override
    public Void visitAssert(AssertTree node, Void none) {
        must(6, false, node);
        return super.visitAssert(node, none);
    }
}
