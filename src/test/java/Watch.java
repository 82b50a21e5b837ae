import java.util.function.Consumer;
import java.util.function.Supplier;
import java.util.function.ToLongFunction;

/**
 * Tells whether a call has changed something. Two inspections are made by the same calls, one of them answers the call
 * in question, and then both are asked for all that a change could show.
 */
final class Watch {
    private static final int BLANKS = 0x20202020;

    private Watch() {
    }

    /** The call must answer this, and change nothing. */
    static void unchanged(Check check, String call, long want, Supplier<ScaleInspection> maker,
            ToLongFunction<ScaleInspection> run) {
        ScaleInspection asked = maker.get();
        check.due(call, want, run.applyAsLong(asked));
        check.due(call + ": what is seen afterwards", walked(maker.get()), walked(asked));
    }

    /** The call must throw exactly this class, and change nothing. */
    static void unchangedByThrow(Check check, String call, Class<?> want, Supplier<ScaleInspection> maker,
            Consumer<ScaleInspection> run) {
        ScaleInspection asked = maker.get();
        check.dueThrow(call, want, () -> run.accept(asked));
        check.due(call + ": what is seen afterwards", walked(maker.get()), walked(asked));
    }

    /** Questions alone; of long lists only the ends, since an object has 512 calls. */
    static String seen(ScaleInspection x) {
        StringBuilder text = new StringBuilder();
        say(text, "market", x.traderCount(), x.scaleCount(), x.massCount(), x.setCount(), x.errorPosition());
        say(text, "loads", x.closestLoad(Integer.MAX_VALUE), x.fewestMasses(500), x.twoPans(425));
        for (int scale = 0; scale < Math.min(2, x.scaleCount()); scale++) {
            say(text, "scale", x.trader(scale), x.capacity(scale), x.expiryDay(scale, 20), x.risk(scale, 9999));
        }
        for (int mass = Math.max(0, x.massCount() - 2); mass < x.massCount(); mass++) {
            say(text, "mass", x.massValue(mass));
        }
        int visits = x.visitCount();
        say(text, "visits", visits, x.undoDepth());
        for (int visit = Math.max(0, visits - 3); visit < visits; visit++) {
            int tests = x.testCount(visit);
            say(text, "visit", x.visitScale(visit), x.isInService(visit), tests, x.isClosed(visit),
                    x.verdict(visit), x.adjustedVerdict(visit));
            for (int test = Math.max(0, tests - 2); test < tests; test++) {
                say(text, "test", x.testLoad(visit, test), x.testError(visit, test));
            }
        }
        for (int set = 0; set < Math.min(2, x.setCount()); set++) {
            say(text, "set", x.weightCount(set), x.weighingCount(set), x.heavySuspects(set), x.lightSuspects(set),
                    x.canBeGenuine(set));
        }
        return text.toString();
    }

    /** The same, then each change undone, both slots restored, and the buffer read; the object is used up then. */
    static String walked(ScaleInspection x) {
        StringBuilder text = new StringBuilder(seen(x));
        for (int i = 0; i < 14 && x.undo(); i++) {
            say(text, "undone", x.visitCount(), x.hypothesisCount(0), x.hypothesisCount(1), x.undoDepth());
            int visit = x.visitCount() - 1;
            say(text, "last visit", x.testCount(visit), x.isClosed(visit));
        }
        for (int slot = 0; slot < 2; slot++) {
            text.append(x.restoreSnapshot(slot)).append('\n').append(seen(x));
        }
        int length = x.append(BLANKS, BLANKS, BLANKS, BLANKS, BLANKS);
        say(text, "buffer", length, x.parse(length < 0 ? 800 : length), x.parse(1));
        return text.append(seen(x)).toString();
    }

    private static void say(StringBuilder text, String what, int... answers) {
        text.append(what);
        for (int answer : answers) {
            text.append(' ').append(answer);
        }
        text.append('\n');
    }
}
