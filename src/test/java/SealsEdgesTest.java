import java.math.BigInteger;
import java.util.function.ToLongFunction;

/** The edges of promises 30 to 35, each sentence of the document that names one; the sentence stands above its test. */
public final class SealsEdgesTest {
    private static final Check CHECK = new Check("SealsEdgesTest");
    private static final int MIN = Integer.MIN_VALUE;
    private static final int MAX = Integer.MAX_VALUE;
    private static final int[] NO_DAY = {-1, 10000, MIN, MAX};
    // One scale of each class and one more, all of which Scene.pass can let pass; class 0 has two years.
    private static final String MARKET = "trader;trader;scale 0 0 10 1000;scale 0 1 10 1000;scale 0 2 10 1000;"
            + "scale 1 0 10 1000;mass 500;term 1 1;term 2 5;";

    public static void main(String[] args) {
        noSuchScale();
        dayOutOfRange();
        firstAndLastDay();
        dayOfTheVisit();
        lastVisitOfOneDay();
        openVisits();
        firstYearOfExpiry();
        yearOfTheVisit();
        firstDayOfExpiry();
        noExpiryDay();
        stateOutOfRange();
        lastScale();
        riskOfEachState();
        failedVisitsSoFar();
        otherScalesOfTheTrader();
        manyFailures();
        riskiestOfEqualOnes();
        noTraders();
        argumentsOfLot();
        invalidBeforeNoScale();
        lotWithoutScales();
        borderOfARisk();
        lotWithoutOverflow();
        CHECK.finish();
    }

    private static void unchanged(String call, long want, ToLongFunction<ScaleInspection> run) {
        Watch.unchanged(CHECK, call, want, Scene::busy, run);
    }

    private static void states(String which, ScaleInspection x, int scale, int[] days, int[] due) {
        for (int i = 0; i < days.length; i++) {
            CHECK.due("30: " + which + " on day " + days[i], due[i], x.sealState(scale, days[i]));
        }
    }

    private static void risks(String which, ScaleInspection x, int day, int... due) {
        for (int scale = 0; scale < due.length; scale++) {
            CHECK.due("33: " + which + ", scale " + scale + " on day " + day, due[scale], x.risk(scale, day));
        }
    }

    // 30, 31 and 33: "INVALID if there is no such scale .."
    private static void noSuchScale() {
        for (int scale : new int[] {-1, 2, 3, 24, MIN, MAX}) {
            unchanged("30: sealState(" + scale + ", 30) of 2", -1, x -> x.sealState(scale, 30));
            unchanged("31: expiryDay(" + scale + ", 30) of 2", -1, x -> x.expiryDay(scale, 30));
            unchanged("33: risk(" + scale + ", 30) of 2", -1, x -> x.risk(scale, 30));
        }
        ScaleInspection x = Scene.busy();
        CHECK.due("30: scale 0", 1, x.sealState(0, 30));
        CHECK.due("30: scale 1", 3, x.sealState(1, 30));
        CHECK.due("31: scale 0", 720, x.expiryDay(0, 30));
        CHECK.due("31: scale 1", -2, x.expiryDay(1, 30));
        CHECK.due("33: scale 0", 1, x.risk(0, 30));
        CHECK.due("33: scale 1", 7, x.risk(1, 30));
        ScaleInspection y = new ScaleInspection();
        CHECK.due("30: no scale at all", -1, y.sealState(0, 0));
        CHECK.due("31: no scale at all", -1, y.expiryDay(0, 0));
        CHECK.due("33: no scale at all", -1, y.risk(0, 0));
    }

    // 30 to 35: "day: 0 to 9999", "INVALID if .. day is out of range"
    private static void dayOutOfRange() {
        for (int day : NO_DAY) {
            for (int scale = 0; scale < 2; scale++) {
                int which = scale;
                unchanged("30: sealState(" + which + ", " + day + ")", -1, x -> x.sealState(which, day));
                unchanged("31: expiryDay(" + which + ", " + day + ")", -1, x -> x.expiryDay(which, day));
                unchanged("33: risk(" + which + ", " + day + ")", -1, x -> x.risk(which, day));
            }
            for (int state = 0; state < 4; state++) {
                int which = state;
                unchanged("32: scalesWith(" + which + ", " + day + ")", -1, x -> x.scalesWith(which, day));
            }
            unchanged("34: riskiestTrader(" + day + ")", -1, x -> x.riskiestTrader(day));
            unchanged("35: lot(5, 0, " + day + ")", -1, x -> x.lot(5, 0, day));
        }
    }

    private static void firstAndLastDay() {
        ScaleInspection x = Text.market(MARKET);
        Scene.pass(x, 0, 0);
        Scene.pass(x, 1, 9999);
        CHECK.due("30: day 0", 1, x.sealState(0, 0));
        CHECK.due("30: day 0", 0, x.sealState(1, 0));
        CHECK.due("30: day 9999", 2, x.sealState(0, 9999));
        CHECK.due("30: day 9999", 1, x.sealState(1, 9999));
        CHECK.due("31: day 0", 720, x.expiryDay(0, 0));
        CHECK.due("31: day 9999", 10080, x.expiryDay(1, 9999));
        CHECK.due("32: day 0", 1, x.scalesWith(1, 0));
        CHECK.due("32: day 9999", 2, x.scalesWith(1, 9999));
        CHECK.due("33: day 0", 1, x.risk(0, 0));
        CHECK.due("33: day 9999", 3, x.risk(0, 9999));
        CHECK.due("34: day 0", 0, x.riskiestTrader(0));
        CHECK.due("34: day 9999", 0, x.riskiestTrader(9999));
        CHECK.due("35: day 0", true, x.lot(0, 0, 0) >= 0);
        CHECK.due("35: day 9999", true, x.lot(0, 0, 9999) >= 0);
    }

    // "the closed visits of the scale whose day is at most the given day", "0 (new) if there is none"
    private static void dayOfTheVisit() {
        ScaleInspection x = Text.market(MARKET);
        Scene.pass(x, 0, 100);
        Scene.fail(x, 0, 200);
        Scene.fail(x, 1, 100);
        Scene.pass(x, 1, 200);
        states("passed, then failed", x, 0, new int[] {0, 99, 100, 101, 199, 200, 201, 9999},
                new int[] {0, 0, 1, 1, 1, 3, 3, 3});
        states("failed, then passed", x, 1, new int[] {0, 99, 100, 101, 199, 200, 359, 360},
                new int[] {0, 0, 3, 3, 3, 1, 1, 2});
        states("never visited", x, 2, new int[] {0, 100, 9999}, new int[] {0, 0, 0});
        CHECK.due("31: the day before", -2, x.expiryDay(0, 99));
        CHECK.due("31: the day itself", 720, x.expiryDay(0, 100));
        CHECK.due("31: before the failure", 720, x.expiryDay(0, 199));
        CHECK.due("31: on the day of the failure", -2, x.expiryDay(0, 200));
        CHECK.due("31: before the pass", -2, x.expiryDay(1, 199));
        CHECK.due("31: on the day of the pass", 360, x.expiryDay(1, 200));
        int[][] due = {{15, 0, 0, 0}, {12, 1, 0, 2}, {12, 1, 0, 2}, {12, 2, 0, 1}};
        int[] days = {99, 100, 199, 200};
        for (int i = 0; i < days.length; i++) {
            for (int state = 0; state < 4; state++) {
                CHECK.due("32: " + state + " on day " + days[i], due[i][state], x.scalesWith(state, days[i]));
            }
        }
    }

    // "the last one of them is the one with the greatest number"
    private static void lastVisitOfOneDay() {
        ScaleInspection x = Text.market(MARKET);
        Scene.pass(x, 0, 50);
        Scene.fail(x, 1, 50);
        Scene.fail(x, 0, 50);
        Scene.pass(x, 1, 50);
        states("the failure is later", x, 0, new int[] {49, 50}, new int[] {0, 3});
        states("the pass is later", x, 1, new int[] {49, 50}, new int[] {0, 1});
        Scene.pass(x, 0, 50);
        CHECK.due("30: passed again", 1, x.sealState(0, 50));
        CHECK.due("30: the other scale", 1, x.sealState(1, 50));
    }

    // "The seal state .. depends on the closed visits": an open one plays no part, whatever its tests are.
    private static void openVisits() {
        ScaleInspection x = Text.market(MARKET);
        x.startVisit(0, 50);
        CHECK.due("30: only an open visit", 0, x.sealState(0, 50));
        CHECK.due("33: only an open visit", 4, x.risk(0, 50));
        x.closeVisit(0);
        CHECK.due("30: closed", 3, x.sealState(0, 50));
        CHECK.due("33: closed", 7, x.risk(0, 50));
        x.startVisit(0, 50);
        x.record(1, 0, 0);
        x.record(1, 1, 500);
        x.record(1, 1, 500);
        CHECK.due("25: it would pass", 0, x.verdict(1));
        CHECK.due("30: but it is open", 3, x.sealState(0, 50));
        CHECK.due("31: but it is open", -2, x.expiryDay(0, 50));
        CHECK.due("33: but it is open", 7, x.risk(0, 50));
        x.closeVisit(1);
        CHECK.due("30: closed", 1, x.sealState(0, 50));
        CHECK.due("33: closed", 2, x.risk(0, 50));
        x.undo();
        CHECK.due("30: open again", 3, x.sealState(0, 50));
        CHECK.due("33: open again", 7, x.risk(0, 50));
    }

    // "1 (valid) if the year of the given day is less than y + the term of the scale's class, and 2 (expired) if not"
    private static void firstYearOfExpiry() {
        ScaleInspection x = Text.market(MARKET);
        int[] years = {2, 1, 5};
        for (int scale = 0; scale < 3; scale++) {
            Scene.pass(x, scale, 400);
            int end = 360 * (1 + years[scale]);
            states(years[scale] + " years", x, scale, new int[] {399, 400, 719, end - 360, end - 1, end, end + 1, 9999},
                    new int[] {0, 1, 1, end - 360 < 400 ? 0 : 1, 1, 2, 2, 2});
        }
        CHECK.due("32: valid", 7, x.scalesWith(1, 719));
        CHECK.due("32: valid", 5, x.scalesWith(1, 720));
        CHECK.due("32: valid", 5, x.scalesWith(1, 1079));
        CHECK.due("32: valid", 4, x.scalesWith(1, 1080));
        CHECK.due("32: expired", 2, x.scalesWith(2, 720));
        CHECK.due("32: expired", 3, x.scalesWith(2, 1080));
        CHECK.due("32: expired", 3, x.scalesWith(2, 2159));
        CHECK.due("32: expired", 7, x.scalesWith(2, 2160));
    }

    // "The year of a day is the day divided by 360, rounded down."
    private static void yearOfTheVisit() {
        int[] days = {0, 1, 359, 360, 361, 719, 720, 9719, 9720, 9999};
        int[] ends = {720, 720, 720, 1080, 1080, 1080, 1440, 10080, 10440, 10440};
        for (int i = 0; i < days.length; i++) {
            ScaleInspection x = Text.market(MARKET);
            Scene.pass(x, 0, days[i]);
            CHECK.due("31: passed on day " + days[i], ends[i], x.expiryDay(0, days[i]));
            CHECK.due("30: passed on day " + days[i], 1, x.sealState(0, Math.min(9999, ends[i] - 1)));
            CHECK.due("30: passed on day " + days[i], ends[i] > 9999 ? -1 : 2, x.sealState(0, ends[i]));
        }
    }

    // 31: "the first day on which the seal that a scale has on a day will be expired if nothing more happens", "Returns
    // that day, which can be greater than 9999"
    private static void firstDayOfExpiry() {
        ScaleInspection x = Text.market(MARKET);
        Scene.pass(x, 2, 9999);
        CHECK.due("31: the greatest day", 11520, x.expiryDay(2, 9999));
        Scene.pass(x, 0, 9359);
        CHECK.due("31: the last day that is at most 9999", 9720, x.expiryDay(0, 9359));
        Scene.pass(x, 0, 9360);
        CHECK.due("31: beyond 9999", 10080, x.expiryDay(0, 9360));
        CHECK.due("31: the seal of the day before", 9720, x.expiryDay(0, 9359));
        // What happens later plays no part.
        Scene.pass(x, 1, 100);
        Scene.fail(x, 1, 200);
        CHECK.due("31: in spite of the failure", 360, x.expiryDay(1, 199));
        CHECK.due("31: on every day of it", 360, x.expiryDay(1, 100));
    }

    // 31: "NONE if the seal state is not 1"
    private static void noExpiryDay() {
        ScaleInspection x = Text.market(MARKET);
        Scene.pass(x, 0, 100);
        Scene.fail(x, 1, 100);
        int[] scales = {0, 0, 0, 0, 1, 1, 2};
        int[] days = {99, 100, 719, 720, 99, 100, 100};
        int[] states = {0, 1, 1, 2, 0, 3, 0};
        int[] due = {-2, 720, 720, -2, -2, -2, -2};
        for (int i = 0; i < due.length; i++) {
            CHECK.due("30: scale " + scales[i] + " on day " + days[i], states[i], x.sealState(scales[i], days[i]));
            CHECK.due("31: scale " + scales[i] + " on day " + days[i], due[i], x.expiryDay(scales[i], days[i]));
        }
    }

    // 32: "state: 0 to 3", "INVALID if an argument is out of range."
    private static void stateOutOfRange() {
        for (int state : new int[] {-1, 4, 5, MIN, MAX}) {
            unchanged("32: scalesWith(" + state + ", 30)", -1, x -> x.scalesWith(state, 30));
            unchanged("32: scalesWith(" + state + ", 10000)", -1, x -> x.scalesWith(state, 10000));
        }
        ScaleInspection x = Scene.busy();
        int[] due = {0, 1, 0, 2};
        for (int state = 0; state < 4; state++) {
            CHECK.due("32: scalesWith(" + state + ", 30)", due[state], x.scalesWith(state, 30));
            CHECK.due("32: no scales", 0, new ScaleInspection().scalesWith(state, 30));
        }
        CHECK.due("32: no scales, state 4", -1, new ScaleInspection().scalesWith(4, 0));
        CHECK.due("32: no scales, day -1", -1, new ScaleInspection().scalesWith(0, -1));
    }

    // "bit k stands for number k": up to the 24th scale.
    private static void lastScale() {
        ScaleInspection x = Text.market("trader;" + "scale 0 0 1 20;".repeat(24));
        CHECK.due("32: all are new", (1 << 24) - 1, x.scalesWith(0, 0));
        Scene.fail(x, 23, 5);
        Scene.fail(x, 0, 5);
        CHECK.due("32: rejected", 1 << 23 | 1, x.scalesWith(3, 5));
        CHECK.due("32: new", (1 << 23) - 2, x.scalesWith(0, 5));
        CHECK.due("30: scale 23", 3, x.sealState(23, 5));
        CHECK.due("30: scale 24", -1, x.sealState(24, 5));
        CHECK.due("33: scale 23", 8, x.risk(23, 5));
        CHECK.due("33: scale 22", 6, x.risk(22, 5));
        CHECK.due("33: scale 24", -1, x.risk(24, 5));
        CHECK.due("31: scale 24", -1, x.expiryDay(24, 5));
    }

    // "The risk of a scale on a day is 4, 1, 3 or 6 for the seal state 0, 1, 2 or 3 on this day"
    private static void riskOfEachState() {
        ScaleInspection x = Text.market(MARKET);
        Scene.pass(x, 3, 100);
        risks("new", x, 99, 4, 4, 4, 4);
        risks("valid", x, 100, 4, 4, 4, 1);
        risks("valid", x, 719, 4, 4, 4, 1);
        risks("expired", x, 720, 4, 4, 4, 3);
        Scene.fail(x, 3, 720);
        risks("rejected", x, 720, 4, 4, 4, 7);
        CHECK.due("33: the least risk", 1, x.risk(3, 100));
    }

    // ".. plus the number of failed closed visits of the scale whose day is at most this day"
    private static void failedVisitsSoFar() {
        ScaleInspection x = Text.market(MARKET);
        Scene.fail(x, 3, 100);
        Scene.fail(x, 3, 100);
        Scene.fail(x, 3, 200);
        Scene.pass(x, 3, 300);
        x.startVisit(3, 300);
        int[] days = {99, 100, 199, 200, 299, 300, 719, 720};
        int[] due = {4, 8, 8, 9, 9, 4, 4, 6};
        for (int i = 0; i < days.length; i++) {
            CHECK.due("33: on day " + days[i], due[i], x.risk(3, days[i]));
        }
        x.closeVisit(4);
        CHECK.due("33: four failures", 10, x.risk(3, 300));
        CHECK.due("33: three failures before", 9, x.risk(3, 299));
    }

    // ".. plus the number of other scales of the same trader whose seal state on this day is 3."
    private static void otherScalesOfTheTrader() {
        ScaleInspection x = Text.market(MARKET);
        Scene.fail(x, 3, 50);
        risks("another trader's scale", x, 50, 4, 4, 4, 7);
        Scene.fail(x, 1, 100);
        risks("the day before", x, 99, 4, 4, 4, 7);
        risks("one is rejected", x, 100, 5, 7, 5, 7);
        Scene.fail(x, 0, 200);
        risks("two are rejected", x, 200, 8, 8, 6, 7);
        risks("one is rejected so far", x, 199, 5, 7, 5, 7);
        Scene.pass(x, 1, 300);
        risks("one has passed since", x, 300, 7, 3, 5, 7);
        Scene.fail(x, 2, 300);
        risks("two again", x, 300, 8, 4, 8, 7);
    }

    private static void manyFailures() {
        ScaleInspection x = Text.market("trader;" + "scale 0 0 1 20;".repeat(24));
        for (int visit = 0; visit < 30; visit++) {
            Scene.fail(x, visit % 24, visit);
        }
        CHECK.due("33: 6 + 2 + 23", 31, x.risk(5, 29));
        CHECK.due("33: 6 + 1 + 23", 30, x.risk(6, 29));
        CHECK.due("33: 4 + 23", 27, x.risk(23, 22));
        CHECK.due("33: 6 + 1 + 22", 29, x.risk(0, 22));
        ScaleInspection y = Text.market("trader;scale 0 0 1 20;");
        for (int visit = 0; visit < 30; visit++) {
            Scene.fail(y, 0, 7);
        }
        CHECK.due("33: 6 + 30", 36, y.risk(0, 7));
        CHECK.due("33: the day before", 4, y.risk(0, 6));
    }

    // 34: "Ties go to the lowest number."
    private static void riskiestOfEqualOnes() {
        ScaleInspection x = Text.market("trader;".repeat(8) + "scale 6 0 1 20;scale 3 0 1 20;scale 7 0 1 20;");
        CHECK.due("34: 3, 6 and 7 are equal", 3, x.riskiestTrader(0));
        Scene.fail(x, 2, 10);
        CHECK.due("34: 7 alone", 7, x.riskiestTrader(10));
        CHECK.due("34: the day before", 3, x.riskiestTrader(9));
        Scene.fail(x, 0, 20);
        CHECK.due("34: 6 and 7", 6, x.riskiestTrader(20));
        CHECK.due("34: the day before", 7, x.riskiestTrader(19));
        ScaleInspection y = Text.market("trader;".repeat(8) + "scale 7 0 1 20;");
        CHECK.due("34: the last trader", 7, y.riskiestTrader(0));
        CHECK.due("34: traders without scales", 0, Text.market("trader;".repeat(8)).riskiestTrader(0));
        CHECK.due("34: a single trader", 0, Text.market("trader;").riskiestTrader(9999));
        // The sum decides, not the single scale: 7 against 4 + 4.
        ScaleInspection z = Text.market("trader;trader;scale 0 0 1 20;scale 1 0 1 20;scale 1 0 1 20;");
        Scene.fail(z, 0, 0);
        CHECK.due("34: the greater sum", 1, z.riskiestTrader(0));
        Scene.fail(z, 0, 0);
        CHECK.due("34: equal sums", 0, z.riskiestTrader(0));
    }

    // 34: "NONE if there are no traders; INVALID if day is out of range."
    private static void noTraders() {
        ScaleInspection x = new ScaleInspection();
        CHECK.due("34: day 0", -2, x.riskiestTrader(0));
        CHECK.due("34: day 9999", -2, x.riskiestTrader(9999));
        for (int day : NO_DAY) {
            CHECK.due("34: day " + day, -1, x.riskiestTrader(day));
        }
        Text.parse(x, "mass 5;set 3;");
        CHECK.due("34: other things than traders", -2, x.riskiestTrader(0));
        Text.parse(x, "trader;");
        CHECK.due("34: a trader", 0, x.riskiestTrader(0));
        Text.parse(x, "");
        CHECK.due("34: no trader again", -2, x.riskiestTrader(0));
    }

    // 35: "seed: 0 to 999999", "position: 0 or more", "NONE if position is not less than the number of scales"
    private static void argumentsOfLot() {
        for (int seed : new int[] {-1, 1000000, MIN, MAX}) {
            unchanged("35: seed " + seed, -1, x -> x.lot(seed, 0, 30));
        }
        for (int position : new int[] {-1, MIN}) {
            unchanged("35: position " + position, -1, x -> x.lot(0, position, 30));
        }
        for (int position : new int[] {2, 3, 24, MAX}) {
            unchanged("35: position " + position, -2, x -> x.lot(0, position, 30));
        }
        ScaleInspection x = Scene.busy();
        for (int seed : new int[] {0, 999999}) {
            int first = x.lot(seed, 0, 30);
            CHECK.due("35: seed " + seed, true, first == 0 || first == 1);
            CHECK.due("35: seed " + seed, 1 - first, x.lot(seed, 1, 30));
        }
    }

    // 35: "NONE if position is not less than the number of scales; INVALID if an argument is out of range (checked
    // first)."
    private static void invalidBeforeNoScale() {
        for (int position : new int[] {2, 24, MAX}) {
            for (int bad : new int[] {-1, 1000000, MIN, MAX}) {
                int day = bad == 1000000 ? 10000 : bad;
                unchanged("35: seed " + bad + ", position " + position, -1, x -> x.lot(bad, position, 30));
                unchanged("35: day " + day + ", position " + position, -1, x -> x.lot(0, position, day));
            }
            unchanged("35: position " + position, -2, x -> x.lot(999999, position, 9999));
        }
    }

    private static void lotWithoutScales() {
        ScaleInspection x = new ScaleInspection();
        CHECK.due("35: no scales", -2, x.lot(0, 0, 0));
        CHECK.due("35: no scales", -2, x.lot(999999, MAX, 9999));
        CHECK.due("35: no scales, seed -1", -1, x.lot(-1, 0, 0));
        CHECK.due("35: no scales, position -1", -1, x.lot(0, -1, 0));
        CHECK.due("35: no scales, day -1", -1, x.lot(0, 0, -1));
        CHECK.due("35: no scales, day 10000", -1, x.lot(0, 0, 10000));
        CHECK.due("35: traders alone", -2, Text.market("trader;trader;").lot(0, 0, 0));
    }

    private static BigInteger drawn(BigInteger x) {
        return x.multiply(BigInteger.valueOf(1103515245)).add(BigInteger.valueOf(12345))
                .mod(BigInteger.valueOf(2147483648L));
    }

    // "each risk is subtracted from r, until r is less than the risk of a scale"
    private static void borderOfARisk() {
        // Risks 4 + 1, 1 + 1, 7 and 4 on day 100 add up to 18; the borders are 5, 7 and 14.
        ScaleInspection x = Text.market(MARKET);
        Scene.pass(x, 1, 100);
        Scene.fail(x, 2, 100);
        risks("for a lot", x, 100, 5, 2, 7, 4);
        int[] due = {0, 0, 0, 0, 0, 1, 1, 2, 2, 2, 2, 2, 2, 2, 3, 3, 3, 3};
        boolean[] seen = new boolean[18];
        for (int seed = 0; seed < 100; seed++) {
            int r = drawn(BigInteger.valueOf(seed)).shiftRight(16).intValue() % 18;
            seen[r] = true;
            CHECK.due("35: r = " + r, due[r], x.lot(seed, 0, 100));
        }
        for (int r = 0; r < 18; r++) {
            CHECK.due("35: some seed gives r = " + r, true, seen[r]);
        }
    }

    // "x becomes (x * 1103515245 + 12345) modulo 2147483648, computed without overflow": x may be 2147483647 at most,
    // so that the product does not fit into an int.
    private static void lotWithoutOverflow() {
        int scales = 24;
        ScaleInspection x = Text.market("trader;" + "scale 0 0 1 20;".repeat(scales));
        for (int seed : new int[] {0, 1, 2, 3, 1945, 1946, 65535, 65536, 500000, 999998, 999999}) {
            BigInteger state = BigInteger.valueOf(seed);
            int left = (1 << scales) - 1;
            for (int position = 0; position < scales; position++) {
                state = drawn(state);
                // All are new, so each risk is 4.
                int place = state.shiftRight(16).intValue() % (4 * (scales - position)) / 4;
                int rest = left;
                for (int i = 0; i < place; i++) {
                    rest &= rest - 1;
                }
                int due = Integer.numberOfTrailingZeros(rest);
                left &= ~(1 << due);
                CHECK.due("35: lot(" + seed + ", " + position + ", 0)", due, x.lot(seed, position, 0));
            }
            CHECK.due("35: all are drawn", -2, x.lot(seed, scales, 0));
        }
    }
}
