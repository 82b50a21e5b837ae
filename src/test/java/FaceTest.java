import java.lang.reflect.Constructor;
import java.lang.reflect.Field;
import java.lang.reflect.Method;
import java.lang.reflect.Modifier;
import java.util.HashSet;
import java.util.Map;
import java.util.Set;
import java.util.TreeMap;
import java.util.TreeSet;
import java.util.regex.Matcher;
import java.util.regex.Pattern;

/** The public face: just what the document prints, and nothing else that others could see. */
public final class FaceTest {
    private static final Check CHECK = new Check("FaceTest");
    private static final Pattern SIGNATURE = Pattern.compile("(int|boolean) (\\w+)\\(([^()]*)\\)(?: throws ([\\w, ]+))?");
    private static final Pattern CONSTANT = Pattern.compile("(\\w+) = (-?[0-9]+)");

    public static void main(String[] args) throws ReflectiveOperationException {
        Class<?> face = ScaleInspection.class;
        String document = Page.document();
        String printed = Page.between(document, "public final class ScaleInspection {", "```");
        CHECK.due("the class", Modifier.PUBLIC | Modifier.FINAL, face.getModifiers());
        Constructor<?>[] constructors = face.getDeclaredConstructors();
        CHECK.due("constructors", 1, constructors.length);
        CHECK.due("the constructor is public", Modifier.PUBLIC, constructors[0].getModifiers());
        CHECK.due("the constructor's parameters", 0, constructors[0].getParameterCount());
        Set<String> methods = methods(face);
        CHECK.due("methods", signatures(printed).toString(), methods.toString());
        promises(document, methods);
        constants(face, printed, Page.between(document, "The constants:", "The constructor and the methods"));
        for (Class<?> inner : face.getDeclaredClasses()) {
            int modifiers = inner.getModifiers();
            CHECK.due(inner.getName() + " is hidden", false, Modifier.isPublic(modifiers));
            CHECK.due(inner.getName() + " is static", true, Modifier.isStatic(modifiers));
        }
        CHECK.finish();
    }

    private static Set<String> methods(Class<?> face) {
        Set<String> found = new TreeSet<>();
        Set<String> names = new HashSet<>();
        Set<String> hidden = new HashSet<>();
        for (Method method : face.getDeclaredMethods()) {
            if (Modifier.isPrivate(method.getModifiers())) {
                hidden.add(method.getName());
                continue;
            }
            names.add(method.getName());
            CHECK.due(method + " is public and an object's", Modifier.PUBLIC, method.getModifiers());
            found.add(told(method));
        }
        hidden.retainAll(names);
        CHECK.due("private methods with names of the face", "[]", hidden.toString());
        return found;
    }

    private static String told(Method method) {
        StringBuilder text = new StringBuilder();
        text.append(method.getReturnType()).append(' ').append(method.getName()).append('(');
        for (Class<?> type : method.getParameterTypes()) {
            text.append(text.charAt(text.length() - 1) == '(' ? "" : ", ").append(type);
        }
        text.append(')');
        for (Class<?> thrown : method.getExceptionTypes()) {
            text.append(' ').append(thrown.getSimpleName());
        }
        return text.toString();
    }

    /** The signatures in a text, without the names of parameters. */
    private static Set<String> signatures(String text) {
        Set<String> found = new TreeSet<>();
        Matcher signature = SIGNATURE.matcher(text);
        while (signature.find()) {
            String parameters = signature.group(3).replaceAll("(int|boolean) \\w+", "$1");
            String thrown = signature.group(4) == null ? "" : " " + signature.group(4).replace(", ", " ");
            found.add(signature.group(1) + " " + signature.group(2) + "(" + parameters + ")" + thrown);
        }
        return found;
    }

    /** The first promise is the constructor, and each of the others one method. */
    private static void promises(String document, Set<String> methods) {
        String[] sections = document.split("\n## Promise ");
        CHECK.due("promises", 51, sections.length - 1);
        Set<String> promised = new TreeSet<>();
        for (int number = 1; number < sections.length; number++) {
            String[] lines = sections[number].split("\n");
            CHECK.due("the number of promise " + number, true, lines[0].startsWith(number + ": "));
            if (number == 1) {
                CHECK.due("promise 1", "`ScaleInspection()`", lines[2]);
            } else {
                CHECK.due("one method of promise " + number, 1, signatures(lines[2]).size());
                promised.addAll(signatures(lines[2]));
            }
        }
        CHECK.due("promised methods", promised.toString(), methods.toString());
    }

    private static void constants(Class<?> face, String printed, String listed) throws ReflectiveOperationException {
        Map<String, Integer> found = new TreeMap<>();
        for (Field field : face.getDeclaredFields()) {
            if (!Modifier.isPrivate(field.getModifiers())) {
                CHECK.due(field.getName(), Modifier.PUBLIC | Modifier.STATIC | Modifier.FINAL, field.getModifiers());
                CHECK.due(field.getName() + " is an int", true, field.getType() == int.class);
                found.put(field.getName(), field.getInt(null));
            }
        }
        CHECK.due("constants", 3, found.size());
        CHECK.due("constants of the face", values(printed), found.toString());
        CHECK.due("constants as they are told", values(listed), found.toString());
    }

    private static String values(String text) {
        Map<String, Integer> found = new TreeMap<>();
        Matcher constant = CONSTANT.matcher(text);
        while (constant.find()) {
            found.put(constant.group(1), Integer.valueOf(constant.group(2)));
        }
        return found.toString();
    }
}
