import java.lang.reflect.Constructor;
import java.lang.reflect.Field;
import java.lang.reflect.Method;
import java.lang.reflect.Modifier;
import java.util.Arrays;
import java.util.HashSet;
import java.util.Set;
import java.util.TreeSet;

/** The public face: just what the document lists, and nothing else that others could see. */
public final class FaceTest {
    private static final Check CHECK = new Check("FaceTest");

    private static final String FACE = "int append(int,int,int,int,int)|int parse(int)|int errorPosition()"
            + "|int traderCount()|int scaleCount()|int massCount()|int setCount()|int trader(int)|int capacity(int)"
            + "|int baseTolerance(int,int) IndexOutOfBoundsException IllegalArgumentException|int massValue(int)"
            + "|int fewestMasses(int)|int closestLoad(int)|int twoPans(int)|int startVisit(int,int)|int visitCount()"
            + "|int visitScale(int)|int isInService(int)|int record(int,int,int)|int testCount(int)"
            + "|int testLoad(int,int) IndexOutOfBoundsException|int testError(int,int) IndexOutOfBoundsException"
            + "|boolean testPasses(int,int) IndexOutOfBoundsException|int verdict(int)"
            + "|int adjustment(int) IndexOutOfBoundsException IllegalStateException|int adjustedVerdict(int)"
            + "|int closeVisit(int)|int isClosed(int)|int sealState(int,int)|int expiryDay(int,int)"
            + "|int scalesWith(int,int)|int risk(int,int)|int riskiestTrader(int)|int lot(int,int,int)"
            + "|int weightCount(int)|int weigh(int,int,int,int)|int weighingCount(int)|int hypothesisCount(int)"
            + "|int heavySuspects(int)|int lightSuspects(int)|int canBeGenuine(int)|int finding(int)"
            + "|int weighingsNeeded(int)|int bestLeft(int)|int bestRight(int)|int fewestWeighings(int,boolean)"
            + "|boolean undo()|int undoDepth()|boolean saveSnapshot(int)|boolean restoreSnapshot(int)";

    public static void main(String[] args) throws ReflectiveOperationException {
        Class<?> face = ScaleInspection.class;
        CHECK.due("the class", Modifier.PUBLIC | Modifier.FINAL, face.getModifiers());
        Constructor<?>[] constructors = face.getDeclaredConstructors();
        CHECK.due("constructors", 1, constructors.length);
        CHECK.due("the constructor is public", Modifier.PUBLIC, constructors[0].getModifiers());
        CHECK.due("the constructor's parameters", 0, constructors[0].getParameterCount());
        methods(face);
        constants(face);
        for (Class<?> inner : face.getDeclaredClasses()) {
            int modifiers = inner.getModifiers();
            CHECK.due(inner.getName() + " is hidden", false, Modifier.isPublic(modifiers));
            CHECK.due(inner.getName() + " is static", true, Modifier.isStatic(modifiers));
        }
        CHECK.finish();
    }

    private static void methods(Class<?> face) {
        Set<String> due = new TreeSet<>(Arrays.asList(FACE.split("\\|")));
        CHECK.due("methods of the document", 50, due.size());
        Set<String> found = new TreeSet<>();
        Set<String> names = new HashSet<>();
        Set<String> hidden = new HashSet<>();
        for (Method method : face.getDeclaredMethods()) {
            if (Modifier.isPrivate(method.getModifiers())) {
                hidden.add(method.getName());
                continue;
            }
            names.add(method.getName());
            CHECK.due(method + " is public and an object's", Modifier.PUBLIC, method.getModifiers());
            found.add(told(method));
        }
        CHECK.due("methods", due.toString(), found.toString());
        hidden.retainAll(names);
        CHECK.due("private methods with names of the face", "[]", hidden.toString());
    }

    private static String told(Method method) {
        StringBuilder text = new StringBuilder();
        text.append(method.getReturnType()).append(' ').append(method.getName()).append('(');
        for (Class<?> type : method.getParameterTypes()) {
            text.append(text.charAt(text.length() - 1) == '(' ? "" : ",").append(type);
        }
        text.append(')');
        for (Class<?> thrown : method.getExceptionTypes()) {
            text.append(' ').append(thrown.getSimpleName());
        }
        return text.toString();
    }

    private static void constants(Class<?> face) throws ReflectiveOperationException {
        int constants = 0;
        for (Field field : face.getDeclaredFields()) {
            if (!Modifier.isPrivate(field.getModifiers())) {
                constants++;
                CHECK.due(field.getName(), Modifier.PUBLIC | Modifier.STATIC | Modifier.FINAL, field.getModifiers());
            }
        }
        CHECK.due("constants", 3, constants);
        CHECK.due("INVALID", -1, face.getField("INVALID").getInt(null));
        CHECK.due("NONE", -2, face.getField("NONE").getInt(null));
        CHECK.due("FULL", -3, face.getField("FULL").getInt(null));
    }
}
