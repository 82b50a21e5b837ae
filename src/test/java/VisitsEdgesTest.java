import java.util.function.Consumer;
import java.util.function.Supplier;
import java.util.function.ToLongFunction;

/** The edges of promises 16 to 29, each sentence of the document that names one; the sentence stands above its test. */
public final class VisitsEdgesTest {
    private static final Check CHECK = new Check("VisitsEdgesTest");
    private static final int MIN = Integer.MIN_VALUE;
    private static final int MAX = Integer.MAX_VALUE;

    public static void main(String[] args) {
        scaleOfVisit();
        dayOfVisit();
        dayOfEarlierVisits();
        invalidBeforeOpen();
        openBeforeFull();
        openVisitOfEachScale();
        thirtiethVisit();
        noSuchVisit();
        numberOfVisits();
        startedBeforeThePass();
        passedAndUndone();
        visitOfRecord();
        massesOfRecord();
        massesOfEachMarket();
        loadOfRecord();
        readingOfRecord();
        invalidBeforeClosed();
        closedBeforeFull();
        eighthTest();
        noSuchTest();
        toleranceOfTest();
        noEmptyTest();
        halfTheCapacity();
        repeatedSet();
        failingTest();
        differingErrors();
        firstVerdictThatApplies();
        passedOrFailed();
        verdictOfClosedVisit();
        adjustmentRounds();
        adjustmentThrows();
        greatestErrors();
        adjustedWithoutTests();
        adjustedByRoundedValue();
        adjustmentLeavesDifferences();
        closedOnce();
        CHECK.finish();
    }

    private static void unchanged(String call, long want, Supplier<ScaleInspection> maker,
            ToLongFunction<ScaleInspection> run) {
        Watch.unchanged(CHECK, call, want, maker, run);
    }

    // 16: "INVALID if there is no such scale .."
    private static void scaleOfVisit() {
        for (int scale : new int[] {-1, 2, 3, 24, MIN, MAX}) {
            unchanged("16: startVisit(" + scale + ", 40) of 2", -1, Scene::busy, x -> x.startVisit(scale, 40));
        }
        ScaleInspection x = Scene.busy();
        CHECK.due("16: the last scale", 3, x.startVisit(1, 40));
        CHECK.due("17: one more", 4, x.visitCount());
        CHECK.due("49: a change", 12, x.undoDepth());
        ScaleInspection y = Text.market("trader;" + "scale 0 0 1 20;".repeat(24));
        CHECK.due("16: scale 24", -1, y.startVisit(24, 0));
        CHECK.due("16: scale 23", 0, y.startVisit(23, 0));
        CHECK.due("16: scale 0", 1, y.startVisit(0, 0));
    }

    // 16: "day: 0 to 9999 ..", ".. or day is out of range"
    private static void dayOfVisit() {
        for (int day : new int[] {-1, 10000, MIN, MAX}) {
            unchanged("16: startVisit(1, " + day + ")", -1, Scene::busy, x -> x.startVisit(1, day));
            unchanged("16: startVisit(0, " + day + ")", -1, () -> Text.market(Scene.MARKET), x -> x.startVisit(0, day));
        }
        ScaleInspection x = Text.market(Scene.MARKET);
        CHECK.due("16: day 0", 0, x.startVisit(0, 0));
        CHECK.due("16: day 9999", 1, x.startVisit(1, 9999));
        x.closeVisit(1);
        CHECK.due("16: day 9998 after it", -1, x.startVisit(1, 9998));
        CHECK.due("16: day 9999 again", 2, x.startVisit(1, 9999));
    }

    // 16: "day: .. not before the day of any earlier visit of this scale"
    private static void dayOfEarlierVisits() {
        unchanged("16: a day before the only visit", -1, Scene::busy, x -> x.startVisit(1, 19));
        ScaleInspection x = Text.market(Scene.MARKET);
        Scene.fail(x, 0, 100);
        Scene.fail(x, 1, 300);
        CHECK.due("16: the day before", -1, x.startVisit(0, 99));
        CHECK.due("16: day 0", -1, x.startVisit(0, 0));
        CHECK.due("16: the day itself", 2, x.startVisit(0, 100));
        x.closeVisit(2);
        Scene.fail(x, 0, 200);
        CHECK.due("16: between both visits", -1, x.startVisit(0, 199));
        CHECK.due("16: after the first one", -1, x.startVisit(0, 101));
        CHECK.due("16: the day of the later one", 4, x.startVisit(0, 200));
        // A visit that was undone is none.
        ScaleInspection y = Text.market(Scene.MARKET);
        Scene.fail(y, 0, 100);
        y.startVisit(0, 200);
        y.undo();
        CHECK.due("16: before the first one", -1, y.startVisit(0, 99));
        CHECK.due("16: before the undone one", 1, y.startVisit(0, 100));
        y.undo();
        y.undo();
        y.undo();
        CHECK.due("16: before all of them", 0, y.startVisit(0, 0));
    }

    // 16: "INVALID if there is no such scale or day is out of range (checked first); NONE if the scale has an open
    // visit (checked second)"
    private static void invalidBeforeOpen() {
        unchanged("16: an open visit", -2, Scene::busy, x -> x.startVisit(0, 30));
        unchanged("16: an open visit, a later day", -2, Scene::busy, x -> x.startVisit(0, 9999));
        for (int day : new int[] {-1, 0, 29, 10000, MIN, MAX}) {
            unchanged("16: an open visit, day " + day, -1, Scene::busy, x -> x.startVisit(0, day));
        }
        ScaleInspection x = Scene.busy();
        x.closeVisit(2);
        CHECK.due("16: no open visit any more", 3, x.startVisit(0, 30));
        CHECK.due("16: an open visit again", -2, x.startVisit(0, 30));
        x.undo();
        CHECK.due("16: it was undone", 3, x.startVisit(0, 30));
    }

    // 16: "NONE if the scale has an open visit (checked second); FULL if there are 30 visits."
    private static void openBeforeFull() {
        unchanged("16: scale 0 has no open visit", -3, Scene::thirtyVisits, x -> x.startVisit(0, 50));
        unchanged("16: scale 1 has an open visit", -2, Scene::thirtyVisits, x -> x.startVisit(1, 50));
        for (int day : new int[] {-1, 49, 10000}) {
            unchanged("16: both, and day " + day, -1, Scene::thirtyVisits, x -> x.startVisit(1, day));
            unchanged("16: thirty, and day " + day, -1, Scene::thirtyVisits, x -> x.startVisit(0, day));
        }
        unchanged("16: thirty, and no such scale", -1, Scene::thirtyVisits, x -> x.startVisit(2, 50));
        unchanged("16: thirty, and no such scale", -1, Scene::thirtyVisits, x -> x.startVisit(-1, 50));
    }

    // "A visit is open until it is closed; a scale has at most one open visit.": all scales may have one at a time.
    private static void openVisitOfEachScale() {
        ScaleInspection x = Text.market("trader;" + "scale 0 0 1 20;".repeat(24));
        for (int scale = 0; scale < 24; scale++) {
            CHECK.due("16: scale " + scale, scale, x.startVisit(scale, 5));
        }
        for (int scale = 0; scale < 24; scale++) {
            CHECK.due("29: open, scale " + scale, 0, x.isClosed(scale));
            CHECK.due("16: a second one, scale " + scale, -2, x.startVisit(scale, 5));
        }
        CHECK.due("28: the one of scale 11", 1, x.closeVisit(11));
        CHECK.due("16: the neighbour's is open", -2, x.startVisit(10, 5));
        CHECK.due("16: the neighbour's is open", -2, x.startVisit(12, 5));
        CHECK.due("16: scale 11 has none", 24, x.startVisit(11, 5));
        CHECK.due("16: scale 11 has one again", -2, x.startVisit(11, 5));
        CHECK.due("29: the earlier one stays closed", 1, x.isClosed(11));
    }

    // "There are at most 30 visits, numbered from 0."
    private static void thirtiethVisit() {
        ScaleInspection x = Text.market(Scene.MARKET);
        for (int visit = 0; visit < 29; visit++) {
            CHECK.due("16: visit " + visit, visit, x.startVisit(0, visit));
            x.closeVisit(visit);
        }
        CHECK.due("16: the thirtieth", 29, x.startVisit(0, 29));
        CHECK.due("17: thirty", 30, x.visitCount());
        CHECK.due("16: another scale", -3, x.startVisit(1, 0));
        CHECK.due("20: the last visit takes tests", 0, x.record(29, 1, 500));
        CHECK.due("28: and is closed", 1, x.closeVisit(29));
        CHECK.due("16: nor the same", -3, x.startVisit(0, 29));
        for (int i = 0; i < 3; i++) {
            CHECK.due("48: undo", true, x.undo());
        }
        CHECK.due("17: one less", 29, x.visitCount());
        CHECK.due("16: the thirtieth again", 29, x.startVisit(1, 0));
    }

    // 18, 19, 21, 25, 27, 28 and 29: "INVALID if there is no such visit"
    private static void noSuchVisit() {
        for (int visit : new int[] {-1, 3, 4, 29, 30, MIN, MAX}) {
            unchanged("18: visitScale(" + visit + ") of 3", -1, Scene::busy, x -> x.visitScale(visit));
            unchanged("19: isInService(" + visit + ") of 3", -1, Scene::busy, x -> x.isInService(visit));
            unchanged("21: testCount(" + visit + ") of 3", -1, Scene::busy, x -> x.testCount(visit));
            unchanged("25: verdict(" + visit + ") of 3", -1, Scene::busy, x -> x.verdict(visit));
            unchanged("27: adjustedVerdict(" + visit + ") of 3", -1, Scene::busy, x -> x.adjustedVerdict(visit));
            unchanged("28: closeVisit(" + visit + ") of 3", -1, Scene::busy, x -> x.closeVisit(visit));
            unchanged("29: isClosed(" + visit + ") of 3", -1, Scene::busy, x -> x.isClosed(visit));
        }
        ScaleInspection x = Scene.busy();
        int[][] due = {{0, 0, 3, 0, 1}, {1, 0, 0, 1, 1}, {0, 1, 1, 1, 0}};
        for (int visit = 0; visit < 3; visit++) {
            CHECK.due("18: visitScale(" + visit + ")", due[visit][0], x.visitScale(visit));
            CHECK.due("19: isInService(" + visit + ")", due[visit][1], x.isInService(visit));
            CHECK.due("21: testCount(" + visit + ")", due[visit][2], x.testCount(visit));
            CHECK.due("25: verdict(" + visit + ")", due[visit][3], x.verdict(visit));
            CHECK.due("29: isClosed(" + visit + ")", due[visit][4], x.isClosed(visit));
        }
        // An undone visit is no such visit any more.
        x.undo();
        x.undo();
        CHECK.due("18: visitScale(2) undone", -1, x.visitScale(2));
        CHECK.due("19: isInService(2) undone", -1, x.isInService(2));
        CHECK.due("21: testCount(2) undone", -1, x.testCount(2));
        CHECK.due("25: verdict(2) undone", -1, x.verdict(2));
        CHECK.due("27: adjustedVerdict(2) undone", -1, x.adjustedVerdict(2));
        CHECK.due("28: closeVisit(2) undone", -1, x.closeVisit(2));
        CHECK.due("29: isClosed(2) undone", -1, x.isClosed(2));
        CHECK.due("20: record(2, 0, 0) undone", -1, x.record(2, 0, 0));
        CHECK.dueThrow("22: testLoad(2, 0) undone", IndexOutOfBoundsException.class, () -> x.testLoad(2, 0));
        CHECK.dueThrow("26: adjustment(2) undone", IndexOutOfBoundsException.class, () -> x.adjustment(2));
    }

    // 17: the number of visits of a new market, and up to 30
    private static void numberOfVisits() {
        CHECK.due("17: none", 0, new ScaleInspection().visitCount());
        CHECK.due("17: none", 0, Text.market(Scene.MARKET).visitCount());
        CHECK.due("17: three", 3, Scene.busy().visitCount());
        CHECK.due("17: thirty", 30, Scene.thirtyVisits().visitCount());
    }

    // "A visit is in service if the scale had passed an earlier visit when this one was started."
    private static void startedBeforeThePass() {
        ScaleInspection x = Text.market(Scene.MARKET);
        Scene.fail(x, 0, 1);
        Scene.pass(x, 0, 1);
        CHECK.due("19: the failed one", 0, x.isInService(0));
        CHECK.due("19: the one that passes", 0, x.isInService(1));
        Scene.fail(x, 0, 1);
        CHECK.due("19: after a pass on the same day", 1, x.isInService(2));
        x.startVisit(0, 9999);
        CHECK.due("19: after a pass and a failure", 1, x.isInService(3));
        x.startVisit(1, 9999);
        CHECK.due("19: another scale of another trader", 0, x.isInService(4));
    }

    private static void passedAndUndone() {
        ScaleInspection x = Text.market(Scene.MARKET);
        Scene.pass(x, 0, 1);
        x.startVisit(0, 1);
        CHECK.due("19: in service", 1, x.isInService(1));
        x.undo();
        x.undo();
        x.undo();
        CHECK.due("28: closed without the repeat", 3, x.closeVisit(0));
        x.startVisit(0, 1);
        CHECK.due("19: not in service", 0, x.isInService(1));
    }

    // 20: "INVALID if there is no such visit .."
    private static void visitOfRecord() {
        for (int visit : new int[] {-1, 3, 30, MIN, MAX}) {
            unchanged("20: record(" + visit + ", 1, 500)", -1, Scene::busy, x -> x.record(visit, 1, 500));
        }
        ScaleInspection x = Scene.busy();
        CHECK.due("20: record(2, 1, 500)", 1, x.record(2, 1, 500));
        CHECK.due("21: two tests", 2, x.testCount(2));
        CHECK.due("49: a change", 12, x.undoDepth());
    }

    // 20: ".. or mass": bit k of a set stands for number k.
    private static void massesOfRecord() {
        for (int masses : new int[] {4, 5, 7, 1 << 10, 1 << 30, (1 << 30) + 1, -1, MIN, MIN + 1, MAX}) {
            unchanged("20: record(2, " + masses + ", 500)", -1, Scene::busy, x -> x.record(2, masses, 500));
        }
        ScaleInspection x = Scene.busy();
        CHECK.due("20: both masses", 1, x.record(2, 3, 575));
        CHECK.due("22: their load", 575, x.testLoad(2, 1));
        CHECK.due("20: no mass", 2, x.record(2, 0, 1));
        CHECK.due("22: no load", 0, x.testLoad(2, 2));
    }

    private static void massesOfEachMarket() {
        ScaleInspection x = new ScaleInspection();
        for (int masses = 10; masses >= 0; masses--) {
            Text.parse(x, "trader;scale 0 0 1 20;" + "mass 2;".repeat(masses));
            x.startVisit(0, 0);
            CHECK.due("20: all of " + masses, 0, x.record(0, (1 << masses) - 1, 0));
            CHECK.due("22: their load", 2 * masses, x.testLoad(0, 0));
            CHECK.due("20: one more than " + masses, -1, x.record(0, 1 << masses, 0));
        }
    }

    // 20: "its load is at most the capacity of the scale", "INVALID if .. the load is too great"
    private static void loadOfRecord() {
        String market = "trader;scale 0 2 5 100;scale 0 2 5 101;mass 100;mass 1;mass 101;mass 999999 plus 99;"
                + "set 2;set 2;";
        Supplier<ScaleInspection> maker = () -> {
            ScaleInspection x = Text.market(market);
            x.startVisit(0, 0);
            x.startVisit(1, 0);
            return x;
        };
        for (int masses : new int[] {3, 4, 5, 8, 15}) {
            unchanged("20: record(0, " + masses + ", 0)", -1, maker, x -> x.record(0, masses, 0));
        }
        ScaleInspection x = maker.get();
        CHECK.due("20: just the capacity", 0, x.record(0, 1, 0));
        CHECK.due("20: 101 of 101", 0, x.record(1, 3, 0));
        CHECK.due("20: 101 of 101", 1, x.record(1, 4, 0));
        CHECK.due("20: 102 of 101", -1, x.record(1, 6, 0));
        CHECK.due("22: the load", 100, x.testLoad(0, 0));
        CHECK.due("22: the load", 101, x.testLoad(1, 0));
        ScaleInspection y = Text.market("trader;scale 0 0 1 999999;mass 999999;mass 999999 plus 1;mass 999998;");
        y.startVisit(0, 0);
        CHECK.due("20: the greatest capacity", 0, y.record(0, 1, 0));
        CHECK.due("20: one more", -1, y.record(0, 2, 0));
        CHECK.due("20: one less", 1, y.record(0, 4, 0));
    }

    // 20: "reading: -1999999 to 1999999", "INVALID if .. reading is out of range"
    private static void readingOfRecord() {
        for (int reading : new int[] {-2000000, 2000000, MIN, MAX}) {
            unchanged("20: record(2, 1, " + reading + ")", -1, Scene::busy, x -> x.record(2, 1, reading));
        }
        ScaleInspection x = Scene.busy();
        CHECK.due("20: the least reading", 1, x.record(2, 1, -1999999));
        CHECK.due("23: its error", -2000499, x.testError(2, 1));
        CHECK.due("20: the greatest reading", 2, x.record(2, 1, 1999999));
        CHECK.due("23: its error", 1999499, x.testError(2, 2));
        CHECK.due("20: 0", 3, x.record(2, 1, 0));
        CHECK.due("23: its error", -500, x.testError(2, 3));
    }

    // 20: "INVALID .. (checked first); NONE if the visit is closed (checked second)"
    private static void invalidBeforeClosed() {
        for (int visit = 0; visit < 2; visit++) {
            int closed = visit;
            unchanged("20: a closed visit", -2, Scene::busy, x -> x.record(closed, 0, 0));
            unchanged("20: a closed visit, the greatest reading", -2, Scene::busy, x -> x.record(closed, 2, 1999999));
            unchanged("20: closed, and no such mass", -1, Scene::busy, x -> x.record(closed, 4, 0));
            unchanged("20: closed, and a negative set", -1, Scene::busy, x -> x.record(closed, -1, 0));
            unchanged("20: closed, and reading 2000000", -1, Scene::busy, x -> x.record(closed, 0, 2000000));
            unchanged("20: closed, and reading -2000000", -1, Scene::busy, x -> x.record(closed, 0, -2000000));
        }
        unchanged("20: closed, and 575 of 141", -1, Scene::busy, x -> x.record(1, 3, 0));
        unchanged("20: closed, and 500 of 141", -1, Scene::busy, x -> x.record(1, 1, 0));
        ScaleInspection x = Scene.busy();
        x.closeVisit(2);
        CHECK.due("20: closed now", -2, x.record(2, 0, 0));
        x.undo();
        CHECK.due("20: open again", 1, x.record(2, 0, 0));
    }

    private static ScaleInspection closedFullVisit() {
        ScaleInspection x = Scene.fullVisit();
        x.startVisit(1, 10);
        x.closeVisit(0);
        return x;
    }

    // 20: "NONE if the visit is closed (checked second); FULL if it has 8 tests."
    private static void closedBeforeFull() {
        unchanged("20: eight tests, open", -3, Scene::fullVisit, x -> x.record(0, 0, 0));
        unchanged("20: eight tests, closed", -2, VisitsEdgesTest::closedFullVisit, x -> x.record(0, 0, 0));
        unchanged("20: eight tests, and no such mass", -1, Scene::fullVisit, x -> x.record(0, 4, 0));
        unchanged("20: eight tests, and reading 2000000", -1, Scene::fullVisit, x -> x.record(0, 0, 2000000));
        unchanged("20: eight tests, and reading -2000000", -1, Scene::fullVisit, x -> x.record(0, 0, -2000000));
        unchanged("20: eight tests, closed, and no such mass", -1, VisitsEdgesTest::closedFullVisit,
                x -> x.record(0, 4, 0));
        Supplier<ScaleInspection> maker = () -> {
            ScaleInspection x = Text.market("trader;scale 0 2 5 100;mass 100;mass 1;set 2;set 2;");
            x.startVisit(0, 0);
            for (int test = 0; test < 8; test++) {
                x.record(0, test % 3, 0);
            }
            return x;
        };
        unchanged("20: eight tests, and 101 of 100", -1, maker, x -> x.record(0, 3, 0));
        unchanged("20: eight tests, and 100 of 100", -3, maker, x -> x.record(0, 1, 0));
    }

    // "A visit is a series of at most 8 tests"; 20: "Returns the number of the test, from 0 in its visit"
    private static void eighthTest() {
        ScaleInspection x = Text.market(Scene.MARKET);
        for (int visit = 0; visit < 2; visit++) {
            x.startVisit(visit, 0);
            CHECK.due("21: no test", 0, x.testCount(visit));
            for (int test = 0; test < 8; test++) {
                CHECK.due("20: test " + test, test, x.record(visit, 2 * (test % 2), 100 + test));
                CHECK.due("21: tests", test + 1, x.testCount(visit));
            }
            CHECK.due("20: the ninth", -3, x.record(visit, 0, 0));
            CHECK.due("21: eight", 8, x.testCount(visit));
            CHECK.due("23: the first", 100, x.testError(visit, 0));
            CHECK.due("23: the eighth", 32, x.testError(visit, 7));
        }
        x.undo();
        CHECK.due("21: seven", 7, x.testCount(1));
        CHECK.due("20: the eighth again", 7, x.record(1, 0, 55));
        CHECK.due("23: the eighth", 55, x.testError(1, 7));
        CHECK.due("23: of the other visit", 32, x.testError(0, 7));
    }

    // 22 to 24: "Throws IndexOutOfBoundsException if there is no such visit or test"
    private static void noSuchTest() {
        int[][] wrong = {{-1, 0}, {3, 0}, {30, 0}, {MIN, 0}, {MAX, 0}, {0, -1}, {0, 3}, {0, 8}, {0, MIN}, {0, MAX},
            {1, 0}, {1, -1}, {2, 1}, {2, -1}, {-1, -1}, {3, 3}, {-1, 8}, {1, -8}, {2, -16}};
        for (int[] at : wrong) {
            String which = "(" + at[0] + ", " + at[1] + ")";
            outside("22: testLoad" + which, x -> x.testLoad(at[0], at[1]));
            outside("23: testError" + which, x -> x.testError(at[0], at[1]));
            outside("24: testPasses" + which, x -> x.testPasses(at[0], at[1]));
        }
        ScaleInspection x = Scene.busy();
        CHECK.due("22: testLoad(0, 0)", 0, x.testLoad(0, 0));
        CHECK.due("22: testLoad(0, 2)", 500, x.testLoad(0, 2));
        CHECK.due("22: testLoad(2, 0)", 500, x.testLoad(2, 0));
        CHECK.due("23: testError(0, 0)", 0, x.testError(0, 0));
        CHECK.due("23: testError(0, 2)", 1, x.testError(0, 2));
        CHECK.due("23: testError(2, 0)", 3, x.testError(2, 0));
        CHECK.due("24: testPasses(0, 0)", true, x.testPasses(0, 0));
        CHECK.due("24: testPasses(0, 2)", true, x.testPasses(0, 2));
        CHECK.due("24: testPasses(2, 0)", true, x.testPasses(2, 0));
        // An undone test is no such test any more.
        x.undo();
        CHECK.dueThrow("23: testError(2, 0) undone", IndexOutOfBoundsException.class, () -> x.testError(2, 0));
    }

    private static void outside(String call, Consumer<ScaleInspection> run) {
        Watch.unchangedByThrow(CHECK, call, IndexOutOfBoundsException.class, Scene::busy, run);
    }

    // "A test passes if the absolute value of its error is at most the tolerance of the visit at its load." "The
    // tolerance of a visit at a load is the base tolerance, doubled if the visit is in service."
    private static void toleranceOfTest() {
        // Division 7: 4 up to 350, 7 up to 1400, 11 above.
        int[] loads = {0, 350, 351, 1400, 1401};
        int[] tolerances = {4, 4, 7, 7, 11};
        int[] sets = {0, 1, 3, 4, 6};
        ScaleInspection x = Text.market("trader;scale 0 2 7 1402;mass 350;mass 1;mass 1400;mass 701;");
        for (int visit = 0; visit < 2; visit++) {
            for (int i = 0; i < loads.length; i++) {
                int most = tolerances[i] * (1 + visit);
                int[] errors = {most, most + 1, -most, -most - 1};
                x.startVisit(0, 0);
                CHECK.due("19: in service", visit, x.isInService(x.visitCount() - 1));
                for (int test = 0; test < 4; test++) {
                    int at = x.visitCount() - 1;
                    CHECK.due("20: a test", test, x.record(at, sets[i], loads[i] + errors[test]));
                    CHECK.due("22: load", loads[i], x.testLoad(at, test));
                    CHECK.due("23: error", errors[test], x.testError(at, test));
                    CHECK.due("24: error " + errors[test] + " at " + loads[i] + ", tolerance " + most, test % 2 == 0,
                            x.testPasses(at, test));
                }
                x.closeVisit(x.visitCount() - 1);
            }
            int pass = x.startVisit(0, 0);
            x.record(pass, 0, 0);
            x.record(pass, 8, 701);
            x.record(pass, 8, 701);
            CHECK.due("28: passed", 0, x.closeVisit(pass));
        }
    }

    /** A visit on a scale with a tolerance of 5 and a capacity of 1000; tests are pairs of masses and reading. */
    private static ScaleInspection visited(int... tests) {
        ScaleInspection x = Text.market("trader;scale 0 0 10 1000;mass 500;mass 499;mass 300;mass 200;mass 100;");
        x.startVisit(0, 0);
        for (int i = 0; i < tests.length; i += 2) {
            CHECK.due("20: a test", i / 2, x.record(0, tests[i], tests[i + 1]));
        }
        return x;
    }

    private static void verdicts(String which, int due, int... tests) {
        ScaleInspection x = visited(tests);
        CHECK.due("25: " + which, due, x.verdict(0));
        CHECK.due("28: " + which, due, x.closeVisit(0));
        CHECK.due("25: " + which + ", closed", due, x.verdict(0));
        CHECK.due("30: " + which, due == 0 ? 1 : 3, x.sealState(0, 0));
    }

    // "1, no test has an empty set of masses"
    private static void noEmptyTest() {
        verdicts("no test", 1);
        verdicts("no empty one", 1, 1, 500, 1, 500);
        verdicts("an empty one at first", 0, 0, 0, 1, 500, 1, 500);
        verdicts("an empty one at last", 0, 1, 500, 1, 500, 0, 0);
        verdicts("eight, none of them empty", 1, 1, 500, 1, 500, 1, 500, 2, 499, 4, 300, 8, 200, 16, 100, 24, 300);
        verdicts("eight, the last one empty", 0, 1, 500, 1, 500, 1, 500, 2, 499, 4, 300, 8, 200, 16, 100, 0, 0);
    }

    // "2, no test has a load of at least half the capacity (twice the load is at least the capacity)"
    private static void halfTheCapacity() {
        verdicts("499 of 1000", 2, 0, 0, 2, 499, 2, 499);
        verdicts("500 of 1000", 0, 0, 0, 1, 500, 1, 500);
        verdicts("500 of two masses", 0, 0, 0, 12, 500, 12, 500);
        verdicts("500 once, and another set twice", 0, 0, 0, 1, 500, 16, 100, 16, 100);
        verdicts("the reading plays no part", 2, 0, 0, 2, 504, 2, 504);
        // Of an odd capacity, half rounded down is too little.
        ScaleInspection x = Text.market("trader;scale 0 0 1 21;scale 0 0 1 21;mass 10;mass 11;");
        for (int scale = 0; scale < 2; scale++) {
            x.startVisit(scale, 0);
            x.record(scale, 0, 0);
            x.record(scale, 1 << scale, 10 + scale);
            x.record(scale, 1 << scale, 10 + scale);
        }
        CHECK.due("25: 10 of 21", 2, x.verdict(0));
        CHECK.due("25: 11 of 21", 0, x.verdict(1));
        ScaleInspection y = Text.market("trader;scale 0 0 1 999999;mass 500000;mass 499999;");
        y.startVisit(0, 0);
        y.record(0, 0, 0);
        y.record(0, 2, 499999);
        y.record(0, 2, 499999);
        CHECK.due("25: 499999 of 999999", 2, y.verdict(0));
        y.record(0, 1, 500000);
        CHECK.due("25: 500000 of 999999", 0, y.verdict(0));
    }

    // "3, there are no two tests with the same set of masses other than the empty set"
    private static void repeatedSet() {
        verdicts("all sets once", 3, 0, 0, 1, 500, 16, 100);
        verdicts("the empty set twice", 3, 0, 0, 0, 0, 1, 500);
        verdicts("two sets of the same load", 3, 0, 0, 1, 500, 12, 500);
        verdicts("two sets with a mass in common", 3, 0, 0, 1, 500, 17, 600);
        verdicts("a set twice", 0, 0, 0, 1, 500, 1, 500);
        verdicts("a light set twice", 0, 0, 0, 1, 500, 16, 100, 16, 100);
        verdicts("first and last of eight", 0, 16, 100, 0, 0, 1, 500, 2, 499, 4, 300, 8, 200, 3, 999, 16, 100);
        verdicts("seventh and eighth", 0, 0, 0, 1, 500, 2, 499, 4, 300, 8, 200, 3, 999, 16, 100, 16, 100);
        verdicts("eight sets", 3, 0, 0, 1, 500, 2, 499, 4, 300, 8, 200, 3, 999, 16, 100, 12, 500);
    }

    // "4, some test does not pass"
    private static void failingTest() {
        verdicts("5 too much", 0, 0, 5, 1, 505, 1, 500);
        verdicts("6 too much", 4, 0, 0, 1, 506, 1, 501);
        verdicts("5 too little", 0, 0, -5, 1, 495, 1, 500);
        verdicts("6 too little", 4, 0, 0, 1, 494, 1, 499);
        verdicts("the empty one", 4, 0, 6, 1, 500, 1, 500);
        verdicts("the empty one below 0", 4, 0, -6, 1, 500, 1, 500);
        verdicts("only the last one", 4, 0, 0, 1, 500, 1, 500, 16, 106);
    }

    // "5, two tests have the same set of masses and errors that differ by more than the tolerance of the visit at
    // their load; 0, none of these."
    private static void differingErrors() {
        verdicts("they differ by 5", 0, 0, 0, 1, 503, 1, 498);
        verdicts("they differ by 6", 5, 0, 0, 1, 503, 1, 497);
        verdicts("they differ by 6 the other way", 5, 0, 0, 1, 497, 1, 503);
        verdicts("two sets of one load differ by 6", 0, 0, 0, 1, 503, 12, 497, 1, 500);
        verdicts("the first and the third", 5, 0, 0, 1, 503, 1, 500, 1, 497);
        verdicts("the second and the last of eight", 5, 0, 0, 1, 503, 1, 500, 2, 499, 4, 300, 8, 200, 16, 100, 1, 497);
        // The document leaves the empty set out of verdict 3 alone.
        verdicts("empty ones differ by 5", 0, 0, -2, 0, 3, 1, 500, 1, 500);
        verdicts("empty ones differ by 6", 5, 0, -3, 0, 3, 1, 500, 1, 500);
        ScaleInspection x = Text.market("trader;scale 0 0 10 1000;mass 500;");
        Scene.pass(x, 0, 0);
        for (int differ = 10; differ <= 11; differ++) {
            int visit = x.startVisit(0, 0);
            x.record(visit, 0, 0);
            x.record(visit, 1, 505);
            x.record(visit, 1, 505 - differ);
            CHECK.due("25: in service they differ by " + differ, differ == 10 ? 0 : 5, x.closeVisit(visit));
        }
        // At their load: 3 up to 250, 5 above.
        int[][] due = {{250, 3, 0}, {250, 4, 5}, {251, 5, 0}, {251, 6, 5}};
        for (int[] row : due) {
            ScaleInspection y = Text.market("trader;scale 0 2 5 500;mass 250;mass 251;");
            y.startVisit(0, 0);
            y.record(0, 0, 0);
            y.record(0, row[0] - 249, row[0] + 3);
            y.record(0, row[0] - 249, row[0] + 3 - row[1]);
            CHECK.due("22: the load", row[0], y.testLoad(0, 2));
            CHECK.due("25: at " + row[0] + " they differ by " + row[1], row[2], y.verdict(0));
        }
    }

    // "The verdict of a visit is the first of these that applies"
    private static void firstVerdictThatApplies() {
        verdicts("1 before 2 and 3", 1, 2, 499);
        verdicts("1 before 2 and 4", 1, 2, 506, 2, 506);
        verdicts("1 before 3", 1, 1, 500);
        verdicts("1 before 4", 1, 1, 506, 1, 506);
        verdicts("1 before 5", 1, 1, 503, 1, 497);
        verdicts("2 before 3", 2, 0, 0);
        verdicts("2 before 3 and 4", 2, 0, 6, 2, 499);
        verdicts("2 before 4", 2, 0, 0, 2, 505, 2, 505);
        verdicts("2 before 5", 2, 0, 0, 2, 502, 2, 496);
        verdicts("3 before 4", 3, 0, 0, 1, 506);
        verdicts("3 before 4, the empty one", 3, 0, 6, 1, 500);
        verdicts("3 before 5", 3, 0, -3, 0, 3, 1, 500);
        verdicts("4 before 5", 4, 0, 0, 1, 506, 1, 500);
        verdicts("4 before 5, of different sets", 4, 0, 6, 1, 503, 1, 497);
    }

    // "the visit is passed if the verdict is 0, otherwise failed": no other verdict counts as passed.
    private static void passedOrFailed() {
        int[][] tests = {{0, 0, 1, 500, 1, 500}, {1, 500}, {0, 0}, {0, 0, 1, 500}, {0, 0, 1, 506, 1, 506},
            {0, 0, 1, 503, 1, 497}};
        for (int verdict = 5; verdict >= 0; verdict--) {
            ScaleInspection x = visited(tests[verdict]);
            CHECK.due("28: verdict " + verdict, verdict, x.closeVisit(0));
            CHECK.due("16: another visit", 1, x.startVisit(0, 0));
            CHECK.due("19: in service after verdict " + verdict, verdict == 0 ? 1 : 0, x.isInService(1));
            CHECK.due("30: state after verdict " + verdict, verdict == 0 ? 1 : 3, x.sealState(0, 0));
            CHECK.due("31: expiry after verdict " + verdict, verdict == 0 ? 720 : -2, x.expiryDay(0, 0));
            CHECK.due("33: risk after verdict " + verdict, verdict == 0 ? 1 : 7, x.risk(0, 0));
        }
    }

    // 25: "Returns the verdict of a visit, open or closed." "Closing a visit fixes its verdict"
    private static void verdictOfClosedVisit() {
        ScaleInspection x = visited(0, 0, 1, 500, 1, 500);
        CHECK.due("25: open", 0, x.verdict(0));
        CHECK.due("28: closed", 0, x.closeVisit(0));
        CHECK.due("20: no test more", -2, x.record(0, 1, 600));
        CHECK.due("25: closed", 0, x.verdict(0));
        x.startVisit(0, 0);
        x.record(1, 1, 600);
        CHECK.due("25: another visit plays no part", 0, x.verdict(0));
        CHECK.due("25: nor do the tests of this one", 1, x.verdict(1));
        CHECK.due("25: no verdict before the first test", 1, visited().verdict(0));
    }

    // "The adjustment .. divided by 2 and rounded toward negative infinity."
    private static void adjustmentRounds() {
        int[][] errors = {{0, 0}, {1, 1}, {-1, -1}, {0, 1}, {0, -1}, {1, 2}, {-1, -2}, {-3, 2}, {3, -2}, {-1, 1},
            {5, -6}, {-5, 6}, {7, 0}, {-7, 0}};
        int[] due = {0, 1, -1, 0, -1, 1, -2, -1, 0, 0, -1, 0, 3, -4};
        for (int i = 0; i < errors.length; i++) {
            ScaleInspection x = visited(0, errors[i][0], 1, 500 + errors[i][1]);
            CHECK.due("26: " + errors[i][0] + " and " + errors[i][1], due[i], x.adjustment(0));
            ScaleInspection y = visited(0, errors[i][1], 0, errors[i][0], 0, errors[i][1]);
            CHECK.due("26: the other way", due[i], y.adjustment(0));
        }
        CHECK.due("26: a single test", -7, visited(1, 493).adjustment(0));
        CHECK.due("26: the sum of the ends, not the mean", 4, visited(0, 0, 0, 0, 0, 0, 0, 9).adjustment(0));
    }

    // 26: "Throws IndexOutOfBoundsException if there is no such visit", "Throws IllegalStateException if the visit has
    // no test"
    private static void adjustmentThrows() {
        for (int visit : new int[] {-1, 3, 30, MIN, MAX}) {
            outside("26: adjustment(" + visit + ") of 3", x -> x.adjustment(visit));
        }
        Watch.unchangedByThrow(CHECK, "26: a closed visit without tests", IllegalStateException.class, Scene::busy,
                x -> x.adjustment(1));
        ScaleInspection x = Text.market(Scene.MARKET);
        CHECK.dueThrow("26: no visit at all", IndexOutOfBoundsException.class, () -> x.adjustment(0));
        x.startVisit(0, 0);
        CHECK.dueThrow("26: an open visit without tests", IllegalStateException.class, () -> x.adjustment(0));
        x.record(0, 0, 3);
        CHECK.due("26: one test", 3, x.adjustment(0));
        x.undo();
        CHECK.dueThrow("26: its test was undone", IllegalStateException.class, () -> x.adjustment(0));
        x.undo();
        CHECK.dueThrow("26: the visit was undone", IndexOutOfBoundsException.class, () -> x.adjustment(0));
    }

    // The greatest and the least readings of the heaviest and of no load.
    private static void greatestErrors() {
        ScaleInspection x = Text.market("trader;scale 0 0 1 999999;mass 999999;");
        x.startVisit(0, 0);
        x.record(0, 1, -1999999);
        CHECK.due("23: the least error", -2999998, x.testError(0, 0));
        CHECK.due("26: the least adjustment", -2999998, x.adjustment(0));
        CHECK.due("24: it fails", false, x.testPasses(0, 0));
        x.record(0, 0, 1999999);
        CHECK.due("26: half of -999999", -500000, x.adjustment(0));
        x.record(0, 1, -1999999);
        CHECK.due("25: they fail", 4, x.verdict(0));
        CHECK.due("27: they fail", 4, x.adjustedVerdict(0));
        x.record(0, 1, 1999999);
        CHECK.due("23: the greatest error of this load", 1000000, x.testError(0, 3));
    }

    // 27: "Returns 0 to 5, 1 if the visit has no test"
    private static void adjustedWithoutTests() {
        ScaleInspection x = Scene.busy();
        CHECK.due("27: closed, without tests", 1, x.adjustedVerdict(1));
        x.undo();
        CHECK.due("27: open, without tests", 1, x.adjustedVerdict(2));
        int[][] tests = {{0, 100, 1, 600, 1, 600}, {1, 600}, {0, 100}, {0, 100, 1, 600}, {0, 0, 1, 600, 1, 600},
            {0, 100, 1, 603, 1, 597}};
        int[] due = {0, 1, 2, 3, 4, 5};
        for (int i = 0; i < tests.length; i++) {
            ScaleInspection y = visited(tests[i]);
            CHECK.due("27: adjusted verdict " + due[i], due[i], y.adjustedVerdict(0));
            y.closeVisit(0);
            CHECK.due("27: adjusted verdict " + due[i] + ", closed", due[i], y.adjustedVerdict(0));
        }
    }

    // 27: "if the adjustment were subtracted from each reading", where the adjustment is a rounded one.
    private static void adjustedByRoundedValue() {
        // The tolerance is 5.
        int[][] ends = {{10, 0}, {11, 0}, {0, -10}, {0, -11}, {5, -5}, {5, -6}, {6, -5}, {6, -4}, {-4, 6}, {110, 100},
            {110, 99}, {-100, -110}, {-100, -111}};
        int[] due = {0, 4, 0, 4, 0, 4, 4, 0, 0, 0, 4, 0, 4};
        for (int i = 0; i < ends.length; i++) {
            int high = Math.max(ends[i][0], ends[i][1]);
            ScaleInspection x = visited(0, ends[i][0], 1, 500 + high - 4, 16, 100 + ends[i][1], 1, 500 + high - 5);
            CHECK.due("27: from " + ends[i][0] + " to " + ends[i][1], due[i], x.adjustedVerdict(0));
        }
    }

    // An adjustment changes no difference of two errors, so verdict 5 stays.
    private static void adjustmentLeavesDifferences() {
        CHECK.due("27: they differ by 6", 5, visited(0, 100, 1, 603, 1, 597).adjustedVerdict(0));
        CHECK.due("27: they differ by 5", 0, visited(0, 100, 1, 603, 1, 598).adjustedVerdict(0));
        CHECK.due("25: as they are", 4, visited(0, 100, 1, 603, 1, 598).verdict(0));
    }

    // 28: "INVALID if there is no such visit; NONE if it is closed already."
    private static void closedOnce() {
        unchanged("28: a passed one", -2, Scene::busy, x -> x.closeVisit(0));
        unchanged("28: a failed one", -2, Scene::busy, x -> x.closeVisit(1));
        unchanged("28: no such visit", -1, Scene::busy, x -> x.closeVisit(3));
        ScaleInspection x = Scene.busy();
        CHECK.due("29: open", 0, x.isClosed(2));
        CHECK.due("28: its verdict", 1, x.closeVisit(2));
        CHECK.due("29: closed", 1, x.isClosed(2));
        CHECK.due("49: a change", 12, x.undoDepth());
        CHECK.due("28: closed already", -2, x.closeVisit(2));
        CHECK.due("49: no change", 12, x.undoDepth());
        x.undo();
        CHECK.due("29: open again", 0, x.isClosed(2));
        x.record(2, 0, 0);
        x.record(2, 1, 500);
        CHECK.due("28: another verdict now", 0, x.closeVisit(2));
    }
}
