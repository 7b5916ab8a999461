import com.sun.source.tree.AssertTree;
import com.sun.source.tree.BinaryTree;
import com.sun.source.tree.BlockTree;
import com.sun.source.tree.ClassTree;
import com.sun.source.tree.CompoundAssignmentTree;
import com.sun.source.tree.DoWhileLoopTree;
import com.sun.source.tree.ExpressionTree;
import com.sun.source.tree.ForLoopTree;
import com.sun.source.tree.ImportTree;
import com.sun.source.tree.InstanceOfTree;
import com.sun.source.tree.LambdaExpressionTree;
import com.sun.source.tree.LineMap;
import com.sun.source.tree.LiteralTree;
import com.sun.source.tree.MemberReferenceTree;
import com.sun.source.tree.MethodInvocationTree;
import com.sun.source.tree.MethodTree;
import com.sun.source.tree.NewArrayTree;
import com.sun.source.tree.NewClassTree;
import com.sun.source.tree.PackageTree;
import com.sun.source.tree.SynchronizedTree;
import com.sun.source.tree.ThrowTree;
import com.sun.source.tree.Tree;
import com.sun.source.tree.TryTree;
import com.sun.source.tree.TypeCastTree;
import com.sun.source.tree.VariableTree;
import com.sun.source.tree.WhileLoopTree;
import com.sun.source.util.TreePath;
import com.sun.source.util.TreePathScanner;
import com.sun.source.util.Trees;
import java.util.Set;
import javax.lang.model.element.Element;
import javax.lang.model.element.ElementKind;
import javax.lang.model.element.Modifier;
import javax.lang.model.element.TypeElement;
import javax.lang.model.element.VariableElement;
import javax.lang.model.type.TypeKind;
import javax.lang.model.type.TypeMirror;

/**
 * Notes what the class has that ../shared/LANGUAGE.md leaves out. It is narrower than the rules where
 * the class needs less than they allow (no try, no lists, no text but in an exception).
 */
final class LanguageScanner extends TreePathScanner<Void, Void> {
    private static final int LONGEST_METHOD = 60;
    private static final int MOST_PARAMETERS = 7;
    private static final int MOST_FIELDS = 20;
    private static final Set<String> EXCEPTIONS = Set.of("IllegalStateException", "IllegalArgumentException",
            "IndexOutOfBoundsException", "ArithmeticException", "UnsupportedOperationException",
            "NoSuchElementException", "RuntimeException");
    private static final Set<String> LIBRARY = Set.of("java.lang.System.arraycopy");
    private static final Set<String> CONSTANTS = Set.of("int", "long", "boolean", "char", "java.lang.String");

    private final Trees trees;
    private final Set<String> broken;
    private final CallGraph calls = new CallGraph();
    private int classes = 0;

    LanguageScanner(Trees trees, Set<String> broken) {
        this.trees = trees;
        this.broken = broken;
    }

    CallGraph calls() {
        return calls;
    }

    int classes() {
        return classes;
    }

    private void refuse(int rule, String what) {
        long at = trees.getSourcePositions().getStartPosition(getCurrentPath().getCompilationUnit(),
                getCurrentPath().getLeaf());
        LineMap lines = getCurrentPath().getCompilationUnit().getLineMap();
        broken.add("rule " + rule + ", line " + (at < 0 ? 0 : lines.getLineNumber(at)) + ": " + what);
    }

    private void refuseIf(boolean isBroken, int rule, String what) {
        if (isBroken) {
            refuse(rule, what);
        }
    }

    private Element element() {
        return trees.getElement(getCurrentPath());
    }

    private TypeMirror typeOf(Tree part) {
        return trees.getTypeMirror(new TreePath(getCurrentPath(), part));
    }

    private static boolean isOwn(Element type) {
        return type instanceof TypeElement named
                && (named.getQualifiedName() + ".").startsWith("PagedMemory.");
    }

    private static String nameOf(Element method) {
        return method.getEnclosingElement().getSimpleName() + "." + method.getSimpleName();
    }

    private TreePath enclosing(Tree.Kind kind) {
        TreePath path = getCurrentPath();
        while (path != null && path.getLeaf().getKind() != kind) {
            path = path.getParentPath();
        }
        return path;
    }

    private boolean isInConstructor() {
        TreePath method = enclosing(Tree.Kind.METHOD);
        return method != null && ((MethodTree) method.getLeaf()).getReturnType() == null;
    }

    // ---- classes, fields, methods

    @Override
    public Void visitPackage(PackageTree node, Void unused) {
        refuse(0, "a package line");
        return super.visitPackage(node, unused);
    }

    @Override
    public Void visitImport(ImportTree node, Void unused) {
        String name = node.getQualifiedIdentifier().toString();
        refuseIf(!name.equals("java.util.NoSuchElementException"), 4, "import " + name);
        return null;
    }

    @Override
    public Void visitClass(ClassTree node, Void unused) {
        classes++;
        boolean isInside = getCurrentPath().getParentPath().getLeaf() instanceof ClassTree;
        boolean isStatic = node.getModifiers().getFlags().contains(Modifier.STATIC);
        refuseIf(isInside && !isStatic, 2, "a class inside that is not static");
        refuseIf(node.getKind() != Tree.Kind.CLASS, 2, "a kind of class that is not needed");
        int fields = 0;
        for (Tree member : node.getMembers()) {
            boolean isField = member instanceof VariableTree;
            fields += isField && !((VariableTree) member).getModifiers().getFlags().contains(Modifier.STATIC) ? 1 : 0;
            refuseIf(member instanceof BlockTree, 5, "an initialiser block");
        }
        refuseIf(fields > MOST_FIELDS, 11, fields + " fields");
        return super.visitClass(node, unused);
    }

    @Override
    public Void visitVariable(VariableTree node, Void unused) {
        Element variable = element();
        TypeMirror type = variable.asType();
        refuseIf(!isAllowed(type), 3, "the type " + type);
        if (variable.getModifiers().contains(Modifier.STATIC)) {
            refuseIf(!variable.getModifiers().contains(Modifier.FINAL), 5, "a static field that is not final");
            refuseIf(!CONSTANTS.contains(type.toString()) || ((VariableElement) variable).getConstantValue() == null,
                    5, "a static field that is no constant");
        }
        boolean isOverwriting = variable.getKind() == ElementKind.FIELD && node.getInitializer() != null
                && !variable.getModifiers().contains(Modifier.STATIC);
        refuseIf(isOverwriting, 12, "a field that is set outside of the constructor");
        return super.visitVariable(node, unused);
    }

    /** Numbers, booleans, the class's own classes, and rows of these. */
    private boolean isAllowed(TypeMirror type) {
        String name = type.toString();
        String part = name.endsWith("[]") ? name.substring(0, name.length() - 2) : name;
        return part.matches("int|long|boolean|double|PagedMemory(\\.\\w+)?");
    }

    @Override
    public Void visitMethod(MethodTree node, Void unused) {
        refuseIf(node.getParameters().size() > MOST_PARAMETERS, 11, node.getParameters().size() + " parameters");
        refuseIf(linesOf(node) > LONGEST_METHOD, 11, linesOf(node) + " lines");
        refuseIf(Set.of("equals", "hashCode", "toString").contains(node.getName().toString()), 6, "" + node.getName());
        for (Modifier modifier : new Modifier[] {Modifier.SYNCHRONIZED, Modifier.NATIVE}) {
            refuseIf(node.getModifiers().getFlags().contains(modifier), 6, modifier + " " + node.getName());
        }
        return super.visitMethod(node, unused);
    }

    private long linesOf(MethodTree node) {
        var unit = getCurrentPath().getCompilationUnit();
        var places = trees.getSourcePositions();
        long end = places.getEndPosition(unit, node);
        return end < 0 ? 0 : unit.getLineMap().getLineNumber(end)
                - unit.getLineMap().getLineNumber(places.getStartPosition(unit, node)) + 1;
    }

    // ---- calls and new objects

    @Override
    public Void visitMethodInvocation(MethodInvocationTree node, Void unused) {
        Element method = element();
        Element type = method.getEnclosingElement();
        boolean isOfObject = method.getKind() == ElementKind.CONSTRUCTOR && type.toString().equals("java.lang.Object");
        refuseIf(!isOwn(type) && !isOfObject && !LIBRARY.contains(type + "." + method.getSimpleName()), 4,
                "a call of " + type + "." + method.getSimpleName());
        if (isOwn(type)) {
            noteCall(method);
            refuseIf(isInConstructor(), 12, "a constructor that calls " + method.getSimpleName());
        }
        return super.visitMethodInvocation(node, unused);
    }

    @Override
    public Void visitNewClass(NewClassTree node, Void unused) {
        Element constructor = element();
        Element type = constructor.getEnclosingElement();
        refuseIf(node.getClassBody() != null, 2, "a class without a name");
        boolean isThrown = getCurrentPath().getParentPath().getLeaf() instanceof ThrowTree;
        refuseIf(!isOwn(type) && !isThrown, 4, "a new " + type);
        if (isOwn(type)) {
            noteCall(constructor);
        }
        return super.visitNewClass(node, unused);
    }

    private void noteCall(Element callee) {
        TreePath caller = enclosing(Tree.Kind.METHOD);
        if (caller == null) {
            refuse(12, "a call outside of the methods");
        } else {
            calls.add(nameOf(trees.getElement(caller)), nameOf(callee));
        }
    }

    /** A constant is a length that was looked at; a row elsewhere than in a constructor is made anew each call. */
    @Override
    public Void visitNewArray(NewArrayTree node, Void unused) {
        refuseIf(!isInConstructor(), 12, "a row that is made by a method");
        for (ExpressionTree length : node.getDimensions()) {
            refuseIf(!isConstant(length), 7, "a length that is no constant: " + length);
        }
        return super.visitNewArray(node, unused);
    }

    // ---- exceptions

    @Override
    public Void visitThrow(ThrowTree node, Void unused) {
        boolean isNew = node.getExpression() instanceof NewClassTree;
        refuseIf(!isNew, 6, "a throw of " + node.getExpression());
        if (isNew) {
            NewClassTree made = (NewClassTree) node.getExpression();
            refuseIf(!EXCEPTIONS.contains(made.getIdentifier().toString()), 6, "a throw of " + made);
            for (ExpressionTree argument : made.getArguments()) {
                boolean isText = argument instanceof LiteralTree literal && literal.getValue() instanceof String;
                refuseIf(!isText, 6, "a text that is not written out: " + argument);
            }
        }
        refuseIf(isInConstructor(), 6, "a throw in a constructor");
        return super.visitThrow(node, unused);
    }

    @Override
    public Void visitTry(TryTree node, Void unused) {
        refuse(6, "a try");
        return super.visitTry(node, unused);
    }

    @Override
    public Void visitAssert(AssertTree node, Void unused) {
        refuse(6, "an assert");
        return super.visitAssert(node, unused);
    }

    @Override
    public Void visitSynchronized(SynchronizedTree node, Void unused) {
        refuse(6, "synchronized");
        return super.visitSynchronized(node, unused);
    }

    // ---- expressions

    @Override
    public Void visitLambdaExpression(LambdaExpressionTree node, Void unused) {
        refuse(2, "a lambda");
        return super.visitLambdaExpression(node, unused);
    }

    @Override
    public Void visitMemberReference(MemberReferenceTree node, Void unused) {
        refuse(2, "a method reference");
        return super.visitMemberReference(node, unused);
    }

    @Override
    public Void visitInstanceOf(InstanceOfTree node, Void unused) {
        refuse(6, "an instanceof that is not needed");
        return super.visitInstanceOf(node, unused);
    }

    @Override
    public Void visitTypeCast(TypeCastTree node, Void unused) {
        refuseIf(!typeOf(node.getType()).getKind().isPrimitive(), 6, "a cast of an object");
        return super.visitTypeCast(node, unused);
    }

    @Override
    public Void visitBinary(BinaryTree node, Void unused) {
        refuseIf(!trees.getTypeMirror(getCurrentPath()).getKind().isPrimitive(), 10, "a sum of texts");
        refuseDivisor(node.getKind() == Tree.Kind.DIVIDE || node.getKind() == Tree.Kind.REMAINDER,
                node.getRightOperand());
        return super.visitBinary(node, unused);
    }

    @Override
    public Void visitCompoundAssignment(CompoundAssignmentTree node, Void unused) {
        refuseIf(!trees.getTypeMirror(getCurrentPath()).getKind().isPrimitive(), 10, "a sum of texts");
        refuseDivisor(node.getKind() == Tree.Kind.DIVIDE_ASSIGNMENT
                || node.getKind() == Tree.Kind.REMAINDER_ASSIGNMENT, node.getExpression());
        return super.visitCompoundAssignment(node, unused);
    }

    /** A division of doubles never throws. */
    private void refuseDivisor(boolean isDivision, ExpressionTree divisor) {
        boolean isDouble = typeOf(divisor).getKind() == TypeKind.DOUBLE;
        refuseIf(isDivision && !isDouble && !isConstant(divisor), 7, "a divisor that is no constant: " + divisor);
    }

    /** A static field of the class, or sums and products of such: visitVariable sees that they are constants. */
    private boolean isConstant(ExpressionTree part) {
        if (part instanceof BinaryTree binary) {
            return isConstant(binary.getLeftOperand()) && isConstant(binary.getRightOperand());
        }
        Element named = trees.getElement(new TreePath(getCurrentPath(), part));
        return named instanceof VariableElement variable && variable.getConstantValue() instanceof Integer number
                && number > 0;
    }

    // ---- loops

    @Override
    public Void visitForLoop(ForLoopTree node, Void unused) {
        refuseIf(node.getCondition() == null || node.getUpdate().size() != 1, 9, "a for without a bound");
        return super.visitForLoop(node, unused);
    }

    @Override
    public Void visitWhileLoop(WhileLoopTree node, Void unused) {
        refuse(9, "a while without a counter");
        return super.visitWhileLoop(node, unused);
    }

    @Override
    public Void visitDoWhileLoop(DoWhileLoopTree node, Void unused) {
        refuse(9, "a do without a counter");
        return super.visitDoWhileLoop(node, unused);
    }
}
