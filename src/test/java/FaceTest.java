import java.io.IOException;
import java.lang.reflect.Constructor;
import java.lang.reflect.Field;
import java.lang.reflect.Method;
import java.lang.reflect.Modifier;
import java.nio.file.Files;
import java.nio.file.Path;
import java.util.Arrays;
import java.util.Set;
import java.util.TreeSet;
import java.util.regex.Matcher;
import java.util.regex.Pattern;

/** The class has the document's face and shows nothing else. */
public final class FaceTest {
    private static final Path DOCUMENT = Path.of("../shared/DOC.md");
    private static final Pattern FACE =
            Pattern.compile("## The public face\\s+```java\n(.*?)```", Pattern.DOTALL);
    private static final Pattern MEMBER =
            Pattern.compile(" *public (?:(\\w+) )?(\\w+)\\(([^)]*)\\)(?: throws ([^;]+))?;");

    private static int wrong = 0;

    private static void due(String what, Object got, Object want) {
        if (!want.equals(got)) {
            wrong++;
            System.out.println(what + ": is " + got + ", due is " + want);
        }
    }

    /** The document's rows, as told() writes a method; a constructor has no type. */
    private static Set<String> faceOfDocument() throws IOException {
        Matcher face = FACE.matcher(Files.readString(DOCUMENT));
        Set<String> rows = new TreeSet<>();
        if (!face.find()) {
            return rows;
        }
        for (String line : face.group(1).split("\n")) {
            Matcher member = MEMBER.matcher(line);
            if (member.matches()) {
                String type = member.group(1) == null ? "" : member.group(1) + " ";
                String parameters = member.group(3).replaceAll("(\\w+) \\w+", "$1");
                String thrown = member.group(4) == null ? "" : member.group(4).replace(",", "");
                rows.add(type + member.group(2) + "(" + parameters + ") " + thrown);
            } else {
                due("the line " + line, Set.of("public final class SplicedChain {", "}").contains(line), true);
            }
        }
        return rows;
    }

    private static String names(Class<?>[] classes, String between) {
        return String.join(between,
                Arrays.stream(classes).map(Class::getSimpleName).toArray(String[]::new));
    }

    private static String told(Method method) {
        return method.getReturnType().getSimpleName() + " " + method.getName()
                + "(" + names(method.getParameterTypes(), ", ") + ") "
                + names(method.getExceptionTypes(), " ");
    }

    private static String told(Constructor<?> constructor) {
        return constructor.getName() + "(" + names(constructor.getParameterTypes(), ", ") + ") "
                + names(constructor.getExceptionTypes(), " ");
    }

    public static void main(String[] args) throws IOException {
        Class<?> face = SplicedChain.class;
        due("class", Modifier.toString(face.getModifiers()), "public final");
        Set<String> members = new TreeSet<>();
        Set<String> publicNames = new TreeSet<>();
        for (Method method : face.getDeclaredMethods()) {
            if (!Modifier.isPrivate(method.getModifiers())) {
                due(method.getName(), Modifier.toString(method.getModifiers()), "public");
                members.add(told(method));
                publicNames.add(method.getName());
            }
        }
        for (Constructor<?> constructor : face.getDeclaredConstructors()) {
            due("constructor", Modifier.toString(constructor.getModifiers()), "public");
            members.add(told(constructor));
        }
        due("members", members, faceOfDocument());
        due("how many members", members.size(), 16);
        for (Method method : face.getDeclaredMethods()) {
            if (Modifier.isPrivate(method.getModifiers())) {
                due("private " + method.getName() + " bears a public name",
                        publicNames.contains(method.getName()), false);
            }
        }
        for (Field field : face.getDeclaredFields()) {
            due("field " + field.getName() + " is private", Modifier.isPrivate(field.getModifiers()), true);
            due("field " + field.getName() + " is no changing static",
                    Modifier.isStatic(field.getModifiers()) && !Modifier.isFinal(field.getModifiers()), false);
        }
        System.out.println(wrong == 0 ? "the face is as due" : wrong + " things are not as due");
        if (wrong != 0) {
            System.exit(1);
        }
    }
}
