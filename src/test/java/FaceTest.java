import java.lang.reflect.Constructor;
import java.lang.reflect.Field;
import java.lang.reflect.Method;
import java.lang.reflect.Modifier;
import java.util.Arrays;
import java.util.Set;
import java.util.TreeSet;

/** The class has the document's face and shows nothing else. */
public final class FaceTest {
    private static final String A = "IllegalArgumentException";
    private static final String S = "IllegalStateException";
    private static final String N = "NoSuchElementException";

    private static final Set<String> FACE = Set.of(
            "int write(int, int) " + A + " " + S,
            "int read(int) " + A + " " + S,
            "int deliver(int) " + A + " " + S + " " + N,
            "int acknowledge(int) " + A + " " + S + " " + N,
            "boolean fail(int) " + A,
            "int repair() ",
            "int resync(int) " + A + " " + S,
            "boolean replied(int) ",
            "int head() ",
            "int tail() ",
            "int valueAt(int, int) " + A,
            "int history(int) " + A,
            "int sent(int) " + A,
            "int waiting(int) " + A,
            "double lag() ");

    private static int wrong = 0;

    private static void due(String what, Object got, Object want) {
        if (!want.equals(got)) {
            wrong++;
            System.out.println(what + ": is " + got + ", due is " + want);
        }
    }

    private static String names(Class<?>[] classes, String between) {
        return String.join(between,
                Arrays.stream(classes).map(Class::getSimpleName).toArray(String[]::new));
    }

    private static String told(Method method) {
        return method.getReturnType().getSimpleName() + " " + method.getName()
                + "(" + names(method.getParameterTypes(), ", ") + ") "
                + names(method.getExceptionTypes(), " ");
    }

    public static void main(String[] args) {
        Class<?> face = SplicedChain.class;
        due("class", Modifier.toString(face.getModifiers()), "public final");
        Set<String> methods = new TreeSet<>();
        Set<String> publicNames = new TreeSet<>();
        for (Method method : face.getDeclaredMethods()) {
            if (!Modifier.isPrivate(method.getModifiers())) {
                due(method.getName(), Modifier.toString(method.getModifiers()), "public");
                methods.add(told(method));
                publicNames.add(method.getName());
            }
        }
        due("methods", methods, new TreeSet<>(FACE));
        for (Method method : face.getDeclaredMethods()) {
            if (Modifier.isPrivate(method.getModifiers())) {
                due("private " + method.getName() + " bears a public name",
                        publicNames.contains(method.getName()), false);
            }
        }
        Constructor<?>[] constructors = face.getDeclaredConstructors();
        due("constructors", constructors.length, 1);
        due("constructor", constructors[0].toString(), "public SplicedChain(int)");
        for (Field field : face.getDeclaredFields()) {
            due("field " + field.getName() + " is private", Modifier.isPrivate(field.getModifiers()), true);
            due("field " + field.getName() + " is no changing static",
                    Modifier.isStatic(field.getModifiers()) && !Modifier.isFinal(field.getModifiers()), false);
        }
        System.out.println(wrong == 0 ? "the face is as due" : wrong + " things are not as due");
        if (wrong != 0) {
            System.exit(1);
        }
    }
}
