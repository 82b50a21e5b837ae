import java.lang.reflect.InvocationTargetException;
import java.lang.reflect.Method;
import java.util.HashMap;
import java.util.Map;
import java.util.Random;
import java.util.TreeMap;

/**
 * Long runs of random calls on ScaleInspection and on Model: the answers and exceptions must be the same. The first
 * argument may give the number of runs, the second the seed of the first one.
 */
public final class RandomRunsTest {
    private static final int RUNS = 1500;
    private static final int CALLS = 512;

    private static final Map<String, Method> CLASS_METHODS = methodsOf(ScaleInspection.class);
    private static final Map<String, Method> MODEL_METHODS = methodsOf(Model.class);
    private static final Map<String, Integer> SEEN = new TreeMap<>();

    private final Check check;
    private final int seed;
    private final Random random;
    private final ScaleInspection x = new ScaleInspection();
    private final Model model = new Model();
    private int calls;
    private int day;
    private boolean slow;
    private boolean shortVisits;

    private RandomRunsTest(Check check, int seed) {
        this.check = check;
        this.seed = seed;
        this.random = new Random(seed);
    }

    public static void main(String[] args) {
        Check check = new Check("RandomRunsTest");
        int runs = args.length > 0 ? Integer.parseInt(args[0]) : RUNS;
        int first = args.length > 1 ? Integer.parseInt(args[1]) : 1;
        for (int seed = first; seed < first + runs && !check.hasFailed(); seed++) {
            new RandomRunsTest(check, seed).go();
        }
        // The runs are worth something only if they reach the rare answers too.
        for (String rare : RARE) {
            if (runs >= RUNS) {
                check.due("the runs reach " + rare, true, SEEN.containsKey(rare));
            }
        }
        check.finish();
    }

    private static final String[] RARE = {
        "append -3", "parse 0", "parse 1", "parse 2", "parse 3", "parse 4", "parse -1", "startVisit -3",
        "startVisit -2", "startVisit -1", "record -3", "record -2", "record -1", "verdict 0", "verdict 1", "verdict 2",
        "verdict 3", "verdict 4", "verdict 5", "adjustedVerdict 0", "adjustedVerdict 4", "adjustedVerdict 5",
        "isInService 1", "sealState 0", "sealState 1", "sealState 2", "sealState 3", "expiryDay -2", "risk 12",
        "weigh -3", "weigh -2", "weigh -1", "finding 0", "finding -2", "weighingsNeeded -2", "weighingsNeeded 3",
        "undoDepth 12", "undo false", "restoreSnapshot true", "restoreSnapshot false", "twoPans -2",
        "fewestMasses -2", "riskiestTrader -2", "lot -2", "weighingCount 20", "testCount 8", "visitCount 30",
    };

    private static Map<String, Method> methodsOf(Class<?> owner) {
        Map<String, Method> found = new HashMap<>();
        for (Method method : owner.getDeclaredMethods()) {
            if (java.lang.reflect.Modifier.isPublic(method.getModifiers())) {
                found.put(method.getName(), method);
            }
        }
        return found;
    }

    private void go() {
        day = random.nextInt(400);
        if (random.nextInt(3) == 0) {
            loadMarket(true);
        }
        if (random.nextInt(30) > 0) {
            loadMarket(false);
        }
        // The plainest search over all pans takes long, so only some runs ask for it often.
        slow = random.nextInt(10) == 0;
        int style = random.nextInt(4);
        boolean parsesOnly = style == 3 && random.nextInt(4) == 0;
        shortVisits = style == 1 && random.nextInt(4) == 0;
        while (calls < CALLS && !check.hasFailed()) {
            int choice = random.nextInt(100);
            if (parsesOnly) {
                loadMarket(true);
                askAboutMarket();
            } else if (choice < (style == 1 ? 50 : 10)) {
                visitAScale();
            } else if (choice < (style == 2 ? 70 : 55)) {
                weighASet(style == 2);
            } else if (choice < 58) {
                change();
            } else if (choice == 99 && random.nextInt(3) == 0) {
                loadMarket(random.nextInt(3) == 0);
            } else {
                ask();
            }
        }
    }

    /** Makes the call on both, and returns the model's answer if it is a number. */
    private int call(String name, Object... arguments) {
        calls++;
        if (calls > CALLS) {
            return 0;
        }
        Object want = answer(MODEL_METHODS.get(name), model, arguments);
        Object got = answer(CLASS_METHODS.get(name), x, arguments);
        StringBuilder told = new StringBuilder();
        told.append("seed ").append(seed).append(" call ").append(calls).append(": ").append(name).append("(");
        for (Object argument : arguments) {
            told.append(argument).append(" ");
        }
        check.due(told.append(")").toString(), want.toString(), got.toString());
        SEEN.merge(name + " " + want, 1, Integer::sum);
        return want instanceof Integer ? (Integer) want : 0;
    }

    private static Object answer(Method method, Object target, Object[] arguments) {
        try {
            return method.invoke(target, arguments);
        } catch (InvocationTargetException thrown) {
            return thrown.getCause().getClass().getName();
        } catch (IllegalAccessException impossible) {
            throw new IllegalStateException(impossible);
        }
    }

    // ---- market texts

    private void loadMarket(boolean faulty) {
        String text = marketText();
        while (text.length() > 800) {
            text = text.substring(0, text.lastIndexOf(';', text.length() - 2) + 1);
        }
        if (faulty) {
            text = spoil(text);
            text = text.substring(0, Math.min(text.length(), 800));
        }
        for (int from = 0; from < text.length(); from += 20) {
            int[] w = Text.words(text, from);
            call("append", w[0], w[1], w[2], w[3], w[4]);
        }
        if (random.nextInt(40) == 0) {
            for (int i = 0; i < 41; i++) {
                call("append", random.nextInt(), 0, 0, 0, 0);
            }
        }
        int length = faulty && random.nextInt(10) == 0 ? random.nextInt(text.length() + 25) - 1 : text.length();
        if (call("parse", length) == -1) {
            call("parse", text.length());
        }
        call("errorPosition");
    }

    private String marketText() {
        StringBuilder text = new StringBuilder();
        int traders = random.nextInt(6) == 0 ? 8 : random.nextInt(4);
        for (int i = 0; i < traders; i++) {
            say(text, "trader");
        }
        int scales = traders == 0 ? 0 : random.nextInt(8) == 0 ? 24 : 1 + random.nextInt(5);
        int masses = random.nextInt(4) == 0 ? 10 : 1 + random.nextInt(6);
        int sets = random.nextInt(5);
        int same = 1 + random.nextInt(200);
        int style = random.nextInt(3);
        while (scales + masses + sets > 0) {
            int choice = random.nextInt(scales + masses + sets);
            if (choice < scales) {
                scales--;
                int division = 1 + random.nextInt(random.nextInt(10) == 0 ? 1000 : 12);
                int times = 20 + random.nextInt(new int[] {4, 50, 300, 3000}[random.nextInt(4)]);
                int capacity = Math.min(999999, division * times + random.nextInt(3));
                say(text, "scale", random.nextInt(traders), random.nextInt(3), division, capacity);
            } else if (choice < scales + masses) {
                masses--;
                sayMass(text, style, same);
            } else {
                sets--;
                int count = random.nextInt(4) == 0 ? 12 : 2 + random.nextInt(9);
                if (random.nextBoolean()) {
                    say(text, "set", count, "maybe");
                } else {
                    say(text, "set", count);
                }
            }
        }
        for (int kind = 0; kind < 3; kind++) {
            if (random.nextInt(3) == 0) {
                say(text, "term", kind, 1 + random.nextInt(5));
            }
        }
        return text.toString();
    }

    private void sayMass(StringBuilder text, int style, int same) {
        int nominal = style == 0 ? same : style == 1 ? 1 + random.nextInt(40) : 10 * (1 + random.nextInt(60));
        if (random.nextInt(30) == 0) {
            nominal = 1 + random.nextInt(999999);
        }
        int choice = random.nextInt(5);
        if (choice == 0) {
            say(text, "mass", nominal, "plus", random.nextInt(100));
        } else if (choice == 1) {
            say(text, "mass", nominal, "minus", random.nextInt(Math.min(100, nominal)));
        } else {
            say(text, "mass", nominal);
        }
    }

    private void say(StringBuilder text, Object... items) {
        for (Object item : items) {
            int blanks = random.nextInt(12);
            boolean glued = blanks == 0 && !(item instanceof Integer && endsWithDigit(text));
            text.append(glued ? "" : blanks == 1 ? "\n" : blanks == 2 ? " \n " : " ");
            text.append(item);
        }
        text.append(random.nextInt(8) == 0 ? " ;" : ";");
    }

    private static boolean endsWithDigit(StringBuilder text) {
        return text.length() > 0 && Character.isDigit(text.charAt(text.length() - 1));
    }

    private static final String[] FAULTS = {
        "trader", "trader;", "scale", "mass", "mass 5;", "set", "set 3;", "maybe", "plus", "minus", "term", "term 1 2;",
        ";", "0", "1", "7", "13", "100", "999999", "1000000", "0000001", "traderss", "traderssx", "A", "\t", "\u00e9",
        " ", "\n", "a", "mass 1 minus 0;", "mass 1 minus 1;", "mass 50 minus 49;", "mass 50 minus 50;",
        "mass 999999 plus 99;", "mass 5 plus 100;", "scale 0 0 1000 20000;", "scale 0 0 1000 19999;", "set 12 maybe;",
        "scale 0 3 1 20;", "scale 0 2 1 20;", "scale 0 2 0 20;", "scale 0 2 1001 999999;", "term 3 1;", "term 0 6;",
        "mass 0;", "mass 5;mass 5;mass 5;mass 5;mass 5;mass 5;mass 5;mass 5;mass 5;mass 5;mass 5;",
        "set 5;set 6;set 7;set 2;set 1;", "term 0 1;term 0 0;",
        "trader;trader;trader;trader;trader;trader;trader;trader;trader;",
    };

    private String spoil(String text) {
        StringBuilder spoilt = new StringBuilder(text);
        for (int i = random.nextInt(3); i >= 0; i--) {
            int at = random.nextInt(spoilt.length() + 1);
            int choice = random.nextInt(4);
            if (choice == 0 && at < spoilt.length()) {
                spoilt.delete(at, Math.min(spoilt.length(), at + 1 + random.nextInt(4)));
            } else if (choice == 1) {
                int end = spoilt.indexOf(";", at);
                spoilt.insert(end < 0 ? spoilt.length() : end + 1, FAULTS[random.nextInt(FAULTS.length)]);
            } else {
                spoilt.insert(at, FAULTS[random.nextInt(FAULTS.length)]);
            }
        }
        return spoilt.toString();
    }

    // ---- changes

    private int some(int count) {
        return random.nextInt(40) == 0 ? random.nextInt(3) == 0 ? any() : count : random.nextInt(Math.max(1, count));
    }

    private int any() {
        int[] edges = {-1, -2, Integer.MIN_VALUE, Integer.MAX_VALUE, 31, 32, 1 << 30, 0, 12, 13, 10000, 1 << 12};
        return random.nextInt(4) == 0 ? random.nextInt() : edges[random.nextInt(edges.length)];
    }

    private int someDay() {
        int choice = random.nextInt(10);
        if (choice == 0) {
            return random.nextInt(3) == 0 ? any() : 9999;
        }
        if (choice < 4) {
            return day;
        }
        if (choice < 7) {
            return Math.max(0, day / 360 * 360 + 360 * random.nextInt(6) - random.nextInt(2));
        }
        return random.nextInt(Math.min(9999, day + 2000));
    }

    private int sumOf(int set) {
        int sum = 0;
        for (int mass = 0; mass < model.massCount(); mass++) {
            sum += (set >> mass & 1) * model.massValue(mass);
        }
        return sum;
    }

    private void visitAScale() {
        if (random.nextInt(3) == 0) {
            day = Math.min(9999, day + random.nextInt(300));
        }
        int scale = some(model.scaleCount());
        int visit = call("startVisit", scale, random.nextInt(15) == 0 ? someDay() : day);
        if (visit < 0) {
            visit = some(model.visitCount());
        }
        if (shortVisits) {
            call("closeVisit", visit);
            return;
        }
        if (random.nextInt(12) == 0) {
            for (int i = 0; i < 9; i++) {
                recordATest(visit, 0);
            }
            return;
        }
        int load = someLoad(visit);
        if (random.nextInt(8) != 0) {
            recordATest(visit, 0);
            recordATest(visit, load);
            recordATest(visit, load);
        }
        while (random.nextInt(3) == 0) {
            recordATest(visit, random.nextBoolean() ? load : random.nextInt(1 << model.massCount()));
        }
        judge(visit);
        if (random.nextInt(5) != 0) {
            call("closeVisit", visit);
        }
    }

    private void judge(int visit) {
        call("verdict", visit);
        call("adjustment", visit);
        call("adjustedVerdict", visit);
    }

    /** The heaviest of some loads that the scale takes. */
    private int someLoad(int visit) {
        int most = model.capacity(model.visitScale(visit));
        int best = 0;
        for (int i = 0; i < 12; i++) {
            int set = random.nextInt(1 << model.massCount());
            if (sumOf(set) <= most && sumOf(set) > sumOf(best)) {
                best = set;
            }
        }
        return best;
    }

    private void recordATest(int visit, int set) {
        int load = sumOf(set);
        int scale = model.visitScale(visit);
        int tolerance = 0;
        if (scale >= 0 && load <= model.capacity(scale)) {
            tolerance = model.baseTolerance(scale, load) * (1 + model.isInService(visit));
        }
        int[] errors = {0, tolerance, -tolerance, tolerance + 1, -tolerance - 1, tolerance / 2, 2 * tolerance};
        int error = random.nextInt(3) > 0 ? random.nextInt(tolerance / 2 + 1) : errors[random.nextInt(errors.length)];
        int reading = random.nextInt(60) == 0 ? random.nextInt(4100000) - 2050000 : load + error;
        int masses = random.nextInt(80) == 0 ? any() : set;
        int test = call("record", visit, masses, reading);
        if (test >= 0 && random.nextInt(4) == 0) {
            call("testLoad", visit, test);
            call("testError", visit, test);
            call("testPasses", visit, test);
        }
    }

    private void weighASet(boolean often) {
        int set = some(model.setCount());
        int count = Math.max(2, model.weightCount(set));
        if (often && random.nextInt(25) == 0) {
            for (int i = 0; i < 21; i++) {
                call("weigh", set, 1, 2, random.nextInt(6) == 0 ? random.nextInt(3) : 0);
            }
            return;
        }
        int size = 1 + random.nextInt(count / 2);
        int left = 0;
        int right = 0;
        while (Integer.bitCount(left) < size) {
            left |= 1 << random.nextInt(count);
        }
        while (Integer.bitCount(right) < size) {
            right |= (1 << random.nextInt(count)) & ~left;
        }
        if (random.nextInt(30) == 0) {
            left = random.nextInt(2) == 0 ? any() : random.nextInt(1 << count);
        }
        if (random.nextInt(60) == 0) {
            left |= 1 << count;
            right |= 1 << (count + 1);
        }
        call("weigh", set, left, right, random.nextInt(30) == 0 ? any() : random.nextInt(3));
        askAboutSet(set);
    }

    private void askAboutSet(int set) {
        call("hypothesisCount", set);
        if (random.nextInt(4) == 0) {
            call("heavySuspects", set);
            call("lightSuspects", set);
            call("canBeGenuine", set);
            call("finding", set);
            call("weighingCount", set);
        }
        call("weighingsNeeded", set);
        if (slow || model.weightCount(set) < 9) {
            call("bestLeft", set);
            call("bestRight", set);
        }
    }

    private void change() {
        switch (random.nextInt(5)) {
            case 0:
                call("saveSnapshot", random.nextInt(8) == 0 ? any() : random.nextInt(2));
                break;
            case 1:
                call("restoreSnapshot", random.nextInt(8) == 0 ? any() : random.nextInt(2));
                break;
            default:
                for (int i = random.nextInt(3) == 0 ? 14 : random.nextInt(4); i >= 0; i--) {
                    call("undo");
                }
                break;
        }
        call("undoDepth");
    }

    // ---- questions

    private void ask() {
        switch (random.nextInt(6)) {
            case 0:
                askAboutMarket();
                break;
            case 1:
                askAboutLoads();
                break;
            case 2:
                askAboutVisit(some(model.visitCount()));
                break;
            case 3:
                askAboutSeals();
                break;
            case 4:
                call("lot", random.nextInt(20) == 0 ? any() : random.nextInt(1000000), some(model.scaleCount()),
                        someDay());
                break;
            default:
                call("fewestWeighings", random.nextInt(5) == 0 ? any() : random.nextInt(15), random.nextBoolean());
                call("weightCount", some(model.setCount()));
                break;
        }
    }

    private void askAboutMarket() {
        call("traderCount");
        call("scaleCount");
        call("massCount");
        call("setCount");
        int scale = some(model.scaleCount());
        call("trader", scale);
        int most = call("capacity", scale);
        call("massValue", some(model.massCount()));
        int load = random.nextInt(8) == 0 ? any() : most < 1 ? 0 : random.nextInt(most + 1);
        call("baseTolerance", scale, load);
    }

    private void askAboutLoads() {
        int set = random.nextInt(1 << model.massCount());
        int other = random.nextInt(1 << model.massCount()) & ~set;
        int load = random.nextInt(5) == 0 ? any() : sumOf(set) + random.nextInt(3) - 1;
        call("fewestMasses", random.nextInt(3) == 0 ? load : sumOf(set));
        call("closestLoad", load);
        call("twoPans", random.nextInt(3) == 0 ? load : Math.abs(sumOf(set) - sumOf(other)));
    }

    private void askAboutVisit(int visit) {
        call("visitCount");
        call("visitScale", visit);
        call("isInService", visit);
        call("testCount", visit);
        call("isClosed", visit);
        int test = random.nextInt(10) == 0 ? any() : random.nextInt(9);
        call("testLoad", visit, test);
        call("testError", visit, test);
        call("testPasses", visit, test);
        judge(visit);
        if (random.nextInt(3) == 0) {
            call("closeVisit", visit);
        }
    }

    private void askAboutSeals() {
        int scale = some(model.scaleCount());
        int when = someDay();
        call("sealState", scale, when);
        call("expiryDay", scale, when);
        call("risk", scale, when);
        call("scalesWith", random.nextInt(10) == 0 ? any() : random.nextInt(4), when);
        call("riskiestTrader", when);
    }
}
