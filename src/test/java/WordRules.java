import com.sun.source.tree.AssertTree;
import com.sun.source.tree.BinaryTree;
import com.sun.source.tree.CatchTree;
import com.sun.source.tree.CompoundAssignmentTree;
import com.sun.source.tree.EnhancedForLoopTree;
import com.sun.source.tree.ExpressionTree;
import com.sun.source.tree.IdentifierTree;
import com.sun.source.tree.LambdaExpressionTree;
import com.sun.source.tree.LiteralTree;
import com.sun.source.tree.MemberReferenceTree;
import com.sun.source.tree.MemberSelectTree;
import com.sun.source.tree.MethodInvocationTree;
import com.sun.source.tree.MethodTree;
import com.sun.source.tree.NewArrayTree;
import com.sun.source.tree.NewClassTree;
import com.sun.source.tree.SwitchExpressionTree;
import com.sun.source.tree.SwitchTree;
import com.sun.source.tree.SynchronizedTree;
import com.sun.source.tree.ThrowTree;
import com.sun.source.tree.Tree;
import com.sun.source.tree.TryTree;
import com.sun.source.tree.TypeCastTree;
import com.sun.source.util.TreeScanner;
import java.util.List;
import java.util.Map;
import javax.lang.model.element.Element;
import javax.lang.model.element.ElementKind;
import javax.lang.model.element.Modifier;
import javax.lang.model.type.TypeKind;
import javax.lang.model.type.TypeMirror;

/** What may stand in a method: rules 2, 4, 6, 10, 12 and 13, and what 3 and 7 say of words. */
final class WordRules extends Language.Rules {
    private static final List<String> EXCEPTIONS = List.of("IllegalStateException", "IllegalArgumentException",
        "IndexOutOfBoundsException", "ArithmeticException", "UnsupportedOperationException", "NoSuchElementException",
        "RuntimeException");
    private static final Map<String, List<String>> LIBRARY = Map.of(
        "java.lang.String", List.of("length", "charAt", "isEmpty", "equals", "indexOf", "substring", "toCharArray"),
        "java.lang.StringBuilder", List.of("append", "charAt", "setCharAt", "setLength", "deleteCharAt", "reverse",
            "length", "toString"),
        "java.lang.System", List.of("arraycopy"),
        "java.util.Arrays", List.of("copyOf", "copyOfRange", "fill"));
    private static final List<String> OF_NUMBERS = List.of("java.lang.Integer", "java.lang.Long", "java.lang.Math");
    private static final List<String> MADE = List.of("java.lang.StringBuilder");

    WordRules(Language language) {
        super(language);
    }

    @Override
    public Void visitLambdaExpression(LambdaExpressionTree lambda, Void none) {
        language.breaks(2, "a lambda");
        return super.visitLambdaExpression(lambda, none);
    }

    @Override
    public Void visitMemberReference(MemberReferenceTree reference, Void none) {
        language.breaks(2, "a method reference");
        return super.visitMemberReference(reference, none);
    }

    @Override
    public Void visitMethodInvocation(MethodInvocationTree call, Void none) {
        Element called = element(call.getMethodSelect());
        String name = called.getSimpleName().toString();
        String owner = called.getEnclosingElement().toString();
        MethodTree around = Language.methodOf(getCurrentPath());
        boolean isUnwritten = called.getKind() == ElementKind.CONSTRUCTOR;
        if (!isUnwritten && !isOwn(called)) {
            breaksIf(!isOfLibrary(called, owner, name), 4, owner + "." + name);
        }
        boolean isInConstructor = around != null && around.getReturnType() == null;
        breaksIf(!isUnwritten && isInConstructor, 12, "a constructor calls " + name);
        breaksIf(name.equals("values") && around != null, 12, "values() is not kept once");
        return super.visitMethodInvocation(call, none);
    }

    private static boolean isOfLibrary(Element called, String owner, String name) {
        if (OF_NUMBERS.contains(owner)) {
            boolean isStatic = called.getModifiers().contains(Modifier.STATIC);
            boolean isOfWholes = called.toString().replaceAll("int|long|,|\\(|\\)|\\w+(?=\\()", "").isEmpty();
            return isStatic && isOfWholes && !name.endsWith("Exact");
        }
        return LIBRARY.getOrDefault(owner, List.of()).contains(name) || owner.equals("Array") && name.equals("clone");
    }

    @Override
    public Void visitMemberSelect(MemberSelectTree select, Void none) {
        looksAtField(language.element(getCurrentPath()));
        return super.visitMemberSelect(select, none);
    }

    @Override
    public Void visitIdentifier(IdentifierTree identifier, Void none) {
        looksAtField(language.element(getCurrentPath()));
        return super.visitIdentifier(identifier, none);
    }

    private void looksAtField(Element field) {
        boolean isField = field != null && field.getKind() == ElementKind.FIELD;
        boolean isOfLibrary = isField && !isOwn(field) && field.getEnclosingElement() != null
            && field.getEnclosingElement().getKind().isClass()
            && !field.getEnclosingElement().toString().equals("Array");
        breaksIf(isOfLibrary && !List.of("length", "class", "this", "super").contains(field.toString()), 4,
            "the library's " + field);
    }

    @Override
    public Void visitNewClass(NewClassTree made, Void none) {
        Element type = element(made.getIdentifier());
        boolean isThrown = getCurrentPath().getParentPath().getLeaf() instanceof ThrowTree;
        breaksIf(!isThrown && !isOwn(type) && !MADE.contains(type.toString()), 4, "new " + type);
        breaksIf(!isThrown && Language.isInLoop(getCurrentPath()), 12, "new " + type + " in a loop");
        return super.visitNewClass(made, none);
    }

    @Override
    public Void visitNewArray(NewArrayTree made, Void none) {
        breaksIf(Language.isInLoop(getCurrentPath()), 12, "an array made in a loop");
        for (ExpressionTree length : made.getDimensions()) {
            breaksIf(!isConstant(length), 7, "an array's length that may be below 0: " + length);
        }
        return super.visitNewArray(made, none);
    }

    /** A number as written, a constant of the class, or both joined by + or *. */
    private boolean isConstant(ExpressionTree tree) {
        if (tree instanceof BinaryTree) {
            BinaryTree both = (BinaryTree) tree;
            boolean isPlus = both.getKind() == Tree.Kind.PLUS || both.getKind() == Tree.Kind.MULTIPLY;
            return isPlus && isConstant(both.getLeftOperand()) && isConstant(both.getRightOperand());
        }
        if (tree instanceof IdentifierTree) {
            Element element = element(tree);
            return element.getModifiers().contains(Modifier.STATIC) && element.getModifiers().contains(Modifier.FINAL);
        }
        return tree.getKind() == Tree.Kind.INT_LITERAL;
    }

    @Override
    public Void visitThrow(ThrowTree thrown, Void none) {
        boolean isMade = thrown.getExpression() instanceof NewClassTree;
        language.breaksIf(!isMade, 6, "throws what it does not make");
        if (isMade) {
            NewClassTree made = (NewClassTree) thrown.getExpression();
            breaksIf(!EXCEPTIONS.contains(made.getIdentifier().toString()), 6, "throws " + made);
            boolean isWritten = made.getArguments().isEmpty()
                || made.getArguments().size() == 1 && made.getArguments().get(0).getKind() == Tree.Kind.STRING_LITERAL;
            breaksIf(!isWritten || made.getClassBody() != null, 6, "throws " + made);
        }
        MethodTree around = Language.methodOf(getCurrentPath());
        breaksIf(around == null || around.getReturnType() == null, 6, "a throw in a constructor");
        return super.visitThrow(thrown, none);
    }

    @Override
    public Void visitTry(TryTree tried, Void none) {
        breaksIf(tried.getFinallyBlock() != null, 6, "finally");
        breaksIf(!tried.getResources().isEmpty(), 6, "try with resources");
        MethodTree around = Language.methodOf(getCurrentPath());
        breaksIf(around != null && has(around, Tree.Kind.THROW), 6, "a throw beside a try");
        return super.visitTry(tried, none);
    }

    private static boolean has(Tree tree, Tree.Kind kind) {
        boolean[] found = new boolean[1];
        new TreeScanner<Void, Void>() {
            @Override
            public Void scan(Tree inner, Void none) {
                found[0] |= inner != null && inner.getKind() == kind;
                return super.scan(inner, none);
            }
        }.scan(tree, null);
        return found[0];
    }

    @Override
    public Void visitCatch(CatchTree caught, Void none) {
        String type = caught.getParameter().getType().toString();
        breaksIf(!EXCEPTIONS.contains(type) || type.equals("RuntimeException"), 6, "catches " + type);
        String name = caught.getParameter().getName().toString();
        new TreeScanner<Void, Void>() {
            @Override
            public Void visitIdentifier(IdentifierTree identifier, Void none) {
                breaksIf(identifier.getName().contentEquals(name), 6, "a catch that uses what it catches");
                return null;
            }
        }.scan(caught.getBlock(), null);
        return super.visitCatch(caught, none);
    }

    @Override
    public Void visitSynchronized(SynchronizedTree block, Void none) {
        language.breaks(6, "synchronized");
        return super.visitSynchronized(block, none);
    }

    @Override
    public Void visitAssert(AssertTree asserted, Void none) {
        language.breaks(6, "assert");
        return super.visitAssert(asserted, none);
    }

    @Override
    public Void visitSwitch(SwitchTree told, Void none) {
        breaksIf(isText(type(told.getExpression())), 10, "a switch on a text");
        return super.visitSwitch(told, none);
    }

    @Override
    public Void visitSwitchExpression(SwitchExpressionTree told, Void none) {
        breaksIf(isText(type(told.getExpression())), 10, "a switch on a text");
        return super.visitSwitchExpression(told, none);
    }

    @Override
    public Void visitBinary(BinaryTree both, Void none) {
        TypeMirror left = type(both.getLeftOperand());
        TypeMirror right = type(both.getRightOperand());
        switch (both.getKind()) {
            case EQUAL_TO: case NOT_EQUAL_TO:
                breaksIf(isText(left) && isText(right) || isBoxed(left) && isBoxed(right), 6, both.toString());
                break;
            case PLUS:
                breaksIf(isText(left) || isText(right), 10, "joins texts by +");
                break;
            case DIVIDE: case REMAINDER:
                breaksIf(!isAboveNothing(both.getRightOperand()), 7, "divides by what may be 0: " + both);
                break;
            default: break;
        }
        return super.visitBinary(both, none);
    }

    @Override
    public Void visitCompoundAssignment(CompoundAssignmentTree changed, Void none) {
        boolean isDivided = changed.getKind() == Tree.Kind.DIVIDE_ASSIGNMENT
            || changed.getKind() == Tree.Kind.REMAINDER_ASSIGNMENT;
        breaksIf(isDivided && !isAboveNothing(changed.getExpression()), 7, "divides by what may be 0: " + changed);
        breaksIf(isText(type(changed.getVariable())), 10, "joins texts by +=");
        return super.visitCompoundAssignment(changed, none);
    }

    private static boolean isAboveNothing(ExpressionTree tree) {
        return tree.getKind() == Tree.Kind.INT_LITERAL && !((LiteralTree) tree).getValue().equals(0);
    }

    @Override
    public Void visitTypeCast(TypeCastTree cast, Void none) {
        breaksIf(!type(cast.getType()).getKind().isPrimitive(), 7, "a cast that may throw: " + cast);
        breaksIf(isBoxed(type(cast.getExpression())), 7, "a cast that may throw: " + cast);
        return super.visitTypeCast(cast, none);
    }

    @Override
    public Void visitLiteral(LiteralTree literal, Void none) {
        Object value = literal.getValue();
        if (value instanceof String) {
            boolean isPlain = ((String) value).chars().allMatch(sign -> sign >= 1 && sign <= 127);
            breaksIf(!isPlain, 4, "a text with a sign that is not 1 to 127");
        }
        breaksIf(value instanceof Character && (Character) value > 255, 3, "a sign above 255");
        breaksIf(value instanceof Double || value instanceof Float, 3, "a number with a point");
        return super.visitLiteral(literal, none);
    }

    @Override
    public Void visitEnhancedForLoop(EnhancedForLoopTree loop, Void none) {
        breaksIf(type(loop.getExpression()).getKind() != TypeKind.ARRAY, 12, "a loop that makes an iterator");
        return super.visitEnhancedForLoop(loop, none);
    }

    private static boolean isText(TypeMirror type) {
        return type != null && type.toString().equals("java.lang.String");
    }

    private static boolean isBoxed(TypeMirror type) {
        return type != null && type.toString().equals("java.lang.Integer");
    }
}
