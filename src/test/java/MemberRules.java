import com.sun.source.tree.BlockTree;
import com.sun.source.tree.ClassTree;
import com.sun.source.tree.CompilationUnitTree;
import com.sun.source.tree.ExpressionTree;
import com.sun.source.tree.MethodTree;
import com.sun.source.tree.NewArrayTree;
import com.sun.source.tree.Tree;
import com.sun.source.tree.VariableTree;
import java.util.List;
import java.util.Set;
import javax.lang.model.element.Modifier;
import javax.lang.model.type.ArrayType;
import javax.lang.model.type.DeclaredType;
import javax.lang.model.type.TypeKind;
import javax.lang.model.type.TypeMirror;

/** What may be declared: rules 1, 2, 3, 5, and 11, and what 6 says of classes and methods. */
final class MemberRules extends Language.Rules {
    private static final int MOST_CLASSES = 12;
    private static final int MOST_FIELDS = 20;
    private static final int MOST_PARAMETERS = 7;
    private static final int MOST_LINES = 60;
    private static final List<String> OF_OBJECT = List.of("equals", "hashCode", "toString");
    private static final List<String> LIBRARY_TYPES = List.of("java.lang.String", "java.lang.StringBuilder");

    private int classes;

    MemberRules(Language language) {
        super(language);
    }

    @Override
    public Void visitCompilationUnit(CompilationUnitTree unit, Void none) {
        breaksIf(unit.getPackageName() != null, 1, "a package line");
        breaksIf(!unit.getImports().isEmpty(), 4, "an import");
        breaksIf(unit.getTypeDecls().size() != 1, 1, "more than one class in the file");
        super.visitCompilationUnit(unit, none);
        breaksIf(classes > MOST_CLASSES, 11, classes + " classes");
        return null;
    }

    @Override
    public Void visitClass(ClassTree told, Void none) {
        classes++;
        Tree around = getCurrentPath().getParentPath().getLeaf();
        Set<Modifier> modifiers = told.getModifiers().getFlags();
        if (around instanceof CompilationUnitTree) {
            boolean isPublicAndFinal = modifiers.equals(Set.of(Modifier.PUBLIC, Modifier.FINAL));
            breaksIf(!isPublicAndFinal, 1, "the class is not public and final");
            breaksIf(!told.getSimpleName().contentEquals("HeadwayDeep"), 1, "the class has another name");
        } else if (around instanceof ClassTree) {
            breaksIf(modifiers.contains(Modifier.PUBLIC) || modifiers.contains(Modifier.PROTECTED), 1,
                told.getSimpleName() + " can be seen from outside");
            breaksIf(told.getKind() == Tree.Kind.CLASS && !modifiers.contains(Modifier.STATIC), 1,
                told.getSimpleName() + " is not static");
        } else {
            breaksIf(around instanceof BlockTree, 2, told.getSimpleName() + " is a local class");
        }
        countFields(told);
        refuseBlocks(told);
        Tree extended = told.getExtendsClause();
        breaksIf(extended != null && !isOwn(element(extended)), 6, told.getSimpleName() + " extends " + extended);
        return super.visitClass(told, none);
    }

    private void countFields(ClassTree told) {
        int fields = 0;
        for (Tree member : told.getMembers()) {
            boolean isField = member instanceof VariableTree;
            fields += isField && !isConstant((VariableTree) member) ? 1 : 0;
        }
        breaksIf(fields > MOST_FIELDS, 11, told.getSimpleName() + " has " + fields + " fields");
    }

    private static boolean isConstant(VariableTree field) {
        return field.getModifiers().getFlags().contains(Modifier.STATIC);
    }

    private void refuseBlocks(ClassTree told) {
        for (Tree member : told.getMembers()) {
            breaksIf(member instanceof BlockTree, 5, "an initialiser block");
        }
    }

    private boolean isOfTheFace() {
        return getCurrentPath().getParentPath().getParentPath().getLeaf() instanceof CompilationUnitTree;
    }

    @Override
    public Void visitMethod(MethodTree method, Void none) {
        String name = method.getName().toString();
        Set<Modifier> modifiers = method.getModifiers().getFlags();
        boolean isPrivate = modifiers.contains(Modifier.PRIVATE);
        boolean isTold = language.names.contains(name);
        boolean isConstructor = method.getReturnType() == null;
        if (isOfTheFace() && !isConstructor) {
            breaksIf(!isPrivate && !(isTold && modifiers.equals(Set.of(Modifier.PUBLIC))), 1, name + " can be seen");
        }
        breaksIf(isPrivate && isTold, 1, "a private method bears the name " + name);
        breaksIf(modifiers.contains(Modifier.SYNCHRONIZED) || modifiers.contains(Modifier.NATIVE), 6, name);
        breaksIf(OF_OBJECT.contains(name), 6, name + " of an own object");
        breaksIf(method.getParameters().size() > MOST_PARAMETERS, 11, name + " takes too much");
        breaksIf(language.lines(method) > MOST_LINES, 11, name + " is too long");
        if (!isConstructor) {
            looksAt(type(method.getReturnType()), name);
        }
        return super.visitMethod(method, none);
    }

    @Override
    public Void visitVariable(VariableTree variable, Void none) {
        String name = variable.getName().toString();
        TypeMirror type = type(variable);
        boolean isOfCatch = getCurrentPath().getParentPath().getLeaf().getKind() == Tree.Kind.CATCH;
        if (!isOfCatch) {
            looksAt(type, name);
        }
        if (getCurrentPath().getParentPath().getLeaf() instanceof ClassTree) {
            looksAtField(variable, type);
        }
        return super.visitVariable(variable, none);
    }

    private void looksAtField(VariableTree field, TypeMirror type) {
        Set<Modifier> modifiers = field.getModifiers().getFlags();
        String name = field.getName().toString();
        boolean isNone = modifiers.contains(Modifier.PUBLIC) && name.equals("NONE");
        boolean isHidden = !isOfTheFace() || modifiers.contains(Modifier.PRIVATE);
        breaksIf(!isNone && !isHidden, 1, "the field " + name + " can be seen");
        if (modifiers.contains(Modifier.STATIC)) {
            breaksIf(!modifiers.contains(Modifier.FINAL), 5, name + " is static and not final");
            breaksIf(!isStaticType(type, field.getInitializer()), 5, name + " is static, and a " + type);
        }
    }

    private static boolean isStaticType(TypeMirror type, ExpressionTree initialiser) {
        switch (type.getKind()) {
            case INT: case LONG: case BOOLEAN: case CHAR: return true;
            case ARRAY:
                boolean isWritten = initialiser instanceof NewArrayTree
                    && ((NewArrayTree) initialiser).getInitializers() != null;
                TypeKind kind = ((ArrayType) type).getComponentType().getKind();
                return isWritten && List.of(TypeKind.INT, TypeKind.LONG, TypeKind.CHAR, TypeKind.BYTE).contains(kind);
            default: return type.toString().equals("java.lang.String");
        }
    }

    /** Types: numbers, own classes, texts, and arrays of them; arrays of arrays are of numbers alone. */
    private void looksAt(TypeMirror type, String name) {
        TypeMirror inner = type;
        int dimensions = 0;
        while (inner.getKind() == TypeKind.ARRAY) {
            inner = ((ArrayType) inner).getComponentType();
            dimensions++;
        }
        boolean isNumber = inner.getKind().isPrimitive() && inner.getKind() != TypeKind.DOUBLE
            && inner.getKind() != TypeKind.FLOAT;
        boolean isOfClass = inner.getKind() == TypeKind.DECLARED && (isOwn(((DeclaredType) inner).asElement())
            || LIBRARY_TYPES.contains(inner.toString()));
        boolean isNothing = inner.getKind() == TypeKind.VOID;
        breaksIf(!isNumber && !isOfClass && !isNothing, 3, name + " is a " + type);
        breaksIf(dimensions > (isNumber ? 2 : 1), 3, name + " has " + dimensions + " dimensions");
        breaksIf(dimensions == 1 && LIBRARY_TYPES.contains(inner.toString()), 3, name + " is an array of texts");
    }
}
