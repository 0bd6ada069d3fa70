import java.lang.reflect.Constructor;
import java.lang.reflect.Field;
import java.lang.reflect.Method;
import java.lang.reflect.Modifier;
import java.util.ArrayList;
import java.util.Arrays;
import java.util.List;
import java.util.TreeSet;

/** The class's face is the document's, and nothing more than that. */
public final class FaceTest {
    private static final Check check = new Check("FaceTest");

    private static final String[] FACE = {
        "int platform(int) IllegalArgumentException IllegalStateException",
        "int beacon(int) IllegalArgumentException IllegalStateException",
        "boolean works(int,boolean) IndexOutOfBoundsException",
        "int zone(int,int) IllegalArgumentException IllegalStateException",
        "boolean close(int,boolean) IndexOutOfBoundsException IllegalStateException",
        "int speed(int) IllegalArgumentException",
        "int train(int) IllegalArgumentException IllegalStateException",
        "int trainIs(int,int) IndexOutOfBoundsException IllegalArgumentException",
        "int slip(int,int) IndexOutOfBoundsException IllegalArgumentException",
        "boolean silent(int,boolean) IndexOutOfBoundsException",
        "boolean emergency(int) IndexOutOfBoundsException",
        "int pass(int) IllegalArgumentException IllegalStateException",
        "void stop(int,int) IndexOutOfBoundsException IllegalStateException",
        "int bar(boolean,int,int) IndexOutOfBoundsException IllegalArgumentException",
        "int open(int,int) IndexOutOfBoundsException IllegalArgumentException IllegalStateException",
        "void shut(int) IndexOutOfBoundsException IllegalStateException",
        "int hold(int,int) IndexOutOfBoundsException IllegalArgumentException IllegalStateException",
        "int depart(int) IndexOutOfBoundsException IllegalStateException",
        "int rate(int,int) IndexOutOfBoundsException IllegalArgumentException",
        "int platformIs(int,int) IndexOutOfBoundsException IllegalArgumentException",
        "int record(int,int) IndexOutOfBoundsException IllegalArgumentException",
        "int placeAnew(int) IndexOutOfBoundsException",
        "boolean isSafe()",
    };

    public static void main(String[] args) {
        hasTheMethods();
        hasOneConstructorAndOneConstant();
        usesNoPublicNameInside();
        check.end();
    }

    private static void hasTheMethods() {
        TreeSet<String> found = new TreeSet<>();
        for (Method method : HeadwayDeep.class.getDeclaredMethods()) {
            if (!Modifier.isPrivate(method.getModifiers())) {
                found.add(told(method));
                check.same(method + " is public and no more", method.getModifiers(), Modifier.PUBLIC);
            }
        }
        for (String due : FACE) {
            check.same("there is " + due, found.remove(due), true);
        }
        check.same("what is there besides: " + found, found.size(), 0);
    }

    private static String told(Method method) {
        List<String> taken = new ArrayList<>();
        for (Class<?> type : method.getParameterTypes()) {
            taken.add(type.getSimpleName());
        }
        StringBuilder text = new StringBuilder(method.getReturnType().getSimpleName());
        text.append(' ').append(method.getName()).append('(').append(String.join(",", taken)).append(')');
        for (Class<?> thrown : method.getExceptionTypes()) {
            text.append(' ').append(thrown.getSimpleName());
        }
        return text.toString();
    }

    private static void hasOneConstructorAndOneConstant() {
        int modifiers = HeadwayDeep.class.getModifiers();
        check.same("the class is public and final", modifiers, Modifier.PUBLIC | Modifier.FINAL);
        Constructor<?>[] constructors = HeadwayDeep.class.getDeclaredConstructors();
        check.same("constructors", constructors.length, 1);
        check.same("the constructor is public", Modifier.isPublic(constructors[0].getModifiers()), true);
        check.same("what the constructor takes", constructors[0].getParameterCount(), 0);
        for (Field field : HeadwayDeep.class.getDeclaredFields()) {
            boolean isNone = field.getName().equals("NONE");
            check.same(field + " is private", Modifier.isPrivate(field.getModifiers()), !isNone);
            boolean isStatic = Modifier.isStatic(field.getModifiers());
            check.same(field + " is final, if static",
                !isStatic || Modifier.isFinal(field.getModifiers()), true);
        }
    }

    private static void usesNoPublicNameInside() {
        List<String> names = new ArrayList<>();
        for (String due : FACE) {
            names.add(due.substring(due.indexOf(' ') + 1, due.indexOf('(')));
        }
        List<Class<?>> classes = new ArrayList<>(Arrays.asList(HeadwayDeep.class.getDeclaredClasses()));
        check.same("at most twelve classes", classes.size() <= 12, true);
        for (Class<?> inside : classes) {
            check.same(inside + " is static", Modifier.isStatic(inside.getModifiers()), true);
            check.same(inside + " has at most twenty fields", inside.getDeclaredFields().length <= 20, true);
            for (Method method : inside.getDeclaredMethods()) {
                check.same(method + " bears the name of a public one", names.contains(method.getName()), false);
            }
        }
        for (Method method : HeadwayDeep.class.getDeclaredMethods()) {
            if (Modifier.isPrivate(method.getModifiers())) {
                check.same(method + " bears the name of a public one", names.contains(method.getName()), false);
            }
        }
    }
}
