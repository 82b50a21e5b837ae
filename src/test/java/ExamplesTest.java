import java.lang.reflect.Method;
import java.util.regex.Matcher;
import java.util.regex.Pattern;

/** The four examples of the document, read from its page: each call must answer what is printed behind it. */
public final class ExamplesTest {
    private static final Check CHECK = new Check("ExamplesTest");
    private static final Pattern CALL = Pattern.compile("(\\w+)\\(([^()]*)\\) returns (-?\\w+)");

    public static void main(String[] args) throws ReflectiveOperationException {
        String text = Page.between(Page.document(), "(each result is that of a run):", "The constants:");
        String[] examples = text.split("Example [0-9]+:");
        int[] calls = {0, 12, 8, 6, 4};
        CHECK.due("examples and what stands before them", calls.length, examples.length);
        for (int i = 0; i < examples.length; i++) {
            CHECK.due("calls of example " + i, calls[i], calls(i, examples[i].replaceAll("\\s+", " ")));
        }
        CHECK.finish();
    }

    /** Makes the calls of an example on one object, and returns their number. */
    private static int calls(int example, String text) throws ReflectiveOperationException {
        ScaleInspection x = new ScaleInspection();
        Matcher call = CALL.matcher(text);
        int calls = 0;
        while (call.find()) {
            calls++;
            String told = call.group(1) + "(" + call.group(2) + ")";
            CHECK.due("example " + example + ": " + told, call.group(3), answer(x, call.group(1), call.group(2)));
        }
        // A call that the pattern does not find would be left out without a word.
        CHECK.due("what is left of example " + example, "", call.replaceAll("").replaceAll("[;. ]", ""));
        return calls;
    }

    private static String answer(ScaleInspection x, String name, String numbers) throws ReflectiveOperationException {
        String[] parts = numbers.isEmpty() ? new String[0] : numbers.split(", ");
        Class<?>[] types = new Class<?>[parts.length];
        Object[] arguments = new Object[parts.length];
        for (int i = 0; i < parts.length; i++) {
            types[i] = int.class;
            arguments[i] = Integer.valueOf(parts[i]);
        }
        Method method = ScaleInspection.class.getMethod(name, types);
        return String.valueOf(method.invoke(x, arguments));
    }
}
