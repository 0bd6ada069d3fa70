import java.io.IOException;
import java.lang.reflect.Constructor;
import java.lang.reflect.Field;
import java.lang.reflect.Method;
import java.lang.reflect.Modifier;
import java.util.List;
import java.util.TreeSet;

/** The class's face is the one of the document's block, word for word, and nothing more than that. */
public final class FaceTest {
    private static final Check check = new Check("FaceTest");

    public static void main(String[] args) throws IOException {
        Face face = new Face();
        hasTheMethods(face);
        hasOneConstructorAndOneConstant();
        showsNothingElse(face);
        usesNoPublicNameInside(face.names());
        keepsTheOrder(face);
        check.end();
    }

    private static void hasTheMethods(Face face) {
        check.same("methods of the document", face.methods().size(), 23);
        for (String method : face.methods()) {
            check.same("the class has " + method, face.isOfClass(method), true);
            check.same("the source has " + method, face.isOfSource("public " + method + " {"), true);
        }
    }

    private static void hasOneConstructorAndOneConstant() {
        int modifiers = HeadwayDeep.class.getModifiers();
        check.same("the class is public and final", modifiers, Modifier.PUBLIC | Modifier.FINAL);
        check.same("the class is of no package", HeadwayDeep.class.getPackageName().isEmpty(), true);
        check.same("what it extends", HeadwayDeep.class.getSuperclass() == Object.class, true);
        check.same("what it implements", HeadwayDeep.class.getInterfaces().length, 0);
        Constructor<?>[] constructors = HeadwayDeep.class.getDeclaredConstructors();
        check.same("constructors", constructors.length, 1);
        check.same("the constructor is public", constructors[0].getModifiers(), Modifier.PUBLIC);
        check.same("what the constructor takes", constructors[0].getParameterCount(), 0);
        check.same("what the constructor throws", constructors[0].getExceptionTypes().length, 0);
        check.same("NONE", HeadwayDeep.NONE, -1);
        for (Field field : HeadwayDeep.class.getDeclaredFields()) {
            boolean isNone = field.getName().equals("NONE");
            check.same(field + " is private", Modifier.isPrivate(field.getModifiers()), !isNone);
            boolean isStatic = Modifier.isStatic(field.getModifiers());
            check.same(field + " is final, if static",
                !isStatic || Modifier.isFinal(field.getModifiers()), true);
        }
    }

    private static void showsNothingElse(Face face) {
        TreeSet<String> due = new TreeSet<>(face.names());
        due.add("NONE");
        due.add("HeadwayDeep");
        TreeSet<String> seen = Face.seenFromOutside();
        check.same("what is seen from outside, " + seen + " for " + due, seen.equals(due), true);
        for (Method method : HeadwayDeep.class.getDeclaredMethods()) {
            if (!Modifier.isPrivate(method.getModifiers())) {
                check.same(method + " is public and no more", method.getModifiers(), Modifier.PUBLIC);
            }
        }
    }

    private static void usesNoPublicNameInside(List<String> names) {
        Class<?>[] classes = HeadwayDeep.class.getDeclaredClasses();
        check.same("at most twelve classes", classes.length <= 12, true);
        for (Class<?> inside : classes) {
            check.same(inside + " is static", Modifier.isStatic(inside.getModifiers()), true);
            check.same(inside + " is public or protected",
                inside.getModifiers() & (Modifier.PUBLIC | Modifier.PROTECTED), 0);
            check.same(inside + " has at most twenty fields", inside.getDeclaredFields().length <= 20, true);
            for (Method method : inside.getDeclaredMethods()) {
                check.same(method + " bears the name of a public one", names.contains(method.getName()), false);
            }
        }
        for (Method method : HeadwayDeep.class.getDeclaredMethods()) {
            if (Modifier.isPrivate(method.getModifiers())) {
                check.same(method + " bears the name of a public one", names.contains(method.getName()), false);
            }
        }
    }

    private static void keepsTheOrder(Face face) {
        for (String remark : face.sentences().values()) {
            List<String> calls = face.callsBehind(remark);
            boolean isSame = calls.equals(face.callsTold(remark));
            check.same("the calls behind '" + remark + "': " + calls, isSame, true);
        }
    }
}
