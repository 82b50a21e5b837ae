/** Promises 16 to 29: visits, tests, verdicts and adjustments. */
public final class VisitsTest {
    private static final Check CHECK = new Check("VisitsTest");
    private static final int[] NO_SUCH = {-1, 30, Integer.MIN_VALUE, Integer.MAX_VALUE};

    // Scale 0 takes 5000 with a tolerance of 5 up to 5000; scale 1 takes 140 with a tolerance of 4.
    private static final String MARKET = "trader;scale 0 1 10 5000;scale 0 2 7 140;mass 1000;mass 2500;mass 140;mass 70;"
            + "mass 2499;";
    private static final int M1000 = 1;
    private static final int M2500 = 2;
    private static final int M140 = 4;
    private static final int M70 = 8;
    private static final int M2499 = 16;

    public static void main(String[] args) {
        startVisit();
        startVisitLimit();
        visitScale();
        inService();
        record();
        recordLimits();
        testAnswers();
        verdicts();
        verdictTolerance();
        undoneTests();
        adjustment();
        adjustedVerdict();
        closeVisit();
        CHECK.finish();
    }

    private static ScaleInspection withVisit() {
        ScaleInspection x = Text.market(MARKET);
        CHECK.due("startVisit", 0, x.startVisit(0, 10));
        return x;
    }

    private static void pass(ScaleInspection x, int visit) {
        x.record(visit, 0, 0);
        x.record(visit, M2500, 2500);
        x.record(visit, M2500, 2500);
        CHECK.due("closeVisit", 0, x.closeVisit(visit));
    }

    private static void startVisit() {
        ScaleInspection x = Text.market(MARKET);
        for (int scale : new int[] {-1, 2, Integer.MIN_VALUE, Integer.MAX_VALUE}) {
            CHECK.due("16: scale " + scale, -1, x.startVisit(scale, 0));
        }
        for (int day : new int[] {-1, 10000, Integer.MIN_VALUE, Integer.MAX_VALUE}) {
            CHECK.due("16: day " + day, -1, x.startVisit(0, day));
        }
        CHECK.due("16: nothing yet", 0, x.visitCount());
        CHECK.due("16: first", 0, x.startVisit(1, 100));
        CHECK.due("16: an open visit", -2, x.startVisit(1, 100));
        CHECK.due("16: an open visit and a later day", -2, x.startVisit(1, 9999));
        CHECK.due("16: an earlier day before an open visit", -1, x.startVisit(1, 99));
        CHECK.due("16: the other scale has a day of its own", 1, x.startVisit(0, 0));
        x.closeVisit(0);
        CHECK.due("16: an earlier day", -1, x.startVisit(1, 99));
        CHECK.due("16: the same day", 2, x.startVisit(1, 100));
        x.closeVisit(2);
        CHECK.due("16: the last day", 3, x.startVisit(1, 9999));
        x.closeVisit(3);
        CHECK.due("16: before the last day", -1, x.startVisit(1, 9998));
        CHECK.due("17: visitCount", 4, x.visitCount());
    }

    private static void startVisitLimit() {
        ScaleInspection x = Text.market(MARKET);
        for (int visit = 0; visit < 30; visit++) {
            CHECK.due("16: visit " + visit, visit, x.startVisit(visit % 2, 7));
            CHECK.due("17: visitCount", visit + 1, x.visitCount());
            if (visit < 29) {
                x.closeVisit(visit);
            }
        }
        CHECK.due("16: FULL", -3, x.startVisit(0, 7));
        CHECK.due("16: NONE before FULL", -2, x.startVisit(1, 7));
        CHECK.due("16: INVALID before FULL", -1, x.startVisit(0, 6));
        CHECK.due("17: still 30", 30, x.visitCount());
        CHECK.due("16: undoDepth after refusals", 12, x.undoDepth());
        CHECK.due("undo", true, x.undo());
        CHECK.due("16: room again", 29, x.startVisit(0, 7));
    }

    private static void visitScale() {
        ScaleInspection x = Text.market(MARKET);
        CHECK.due("18: no visit", -1, x.visitScale(0));
        x.startVisit(1, 5);
        x.startVisit(0, 5);
        CHECK.due("18: visit 0", 1, x.visitScale(0));
        CHECK.due("18: visit 1", 0, x.visitScale(1));
        CHECK.due("18: visit 2", -1, x.visitScale(2));
        for (int visit : NO_SUCH) {
            CHECK.due("18: visit " + visit, -1, x.visitScale(visit));
            CHECK.due("19: visit " + visit, -1, x.isInService(visit));
            CHECK.due("21: visit " + visit, -1, x.testCount(visit));
            CHECK.due("25: visit " + visit, -1, x.verdict(visit));
            CHECK.due("27: visit " + visit, -1, x.adjustedVerdict(visit));
            CHECK.due("28: visit " + visit, -1, x.closeVisit(visit));
            CHECK.due("29: visit " + visit, -1, x.isClosed(visit));
        }
    }

    private static void inService() {
        ScaleInspection x = withVisit();
        CHECK.due("19: the first visit", 0, x.isInService(0));
        x.closeVisit(0);
        x.startVisit(0, 10);
        CHECK.due("19: after a failed one", 0, x.isInService(1));
        pass(x, 1);
        CHECK.due("19: its own pass plays no part", 0, x.isInService(1));
        x.startVisit(1, 10);
        CHECK.due("19: another scale", 0, x.isInService(2));
        x.startVisit(0, 20);
        CHECK.due("19: after a passed one", 1, x.isInService(3));
        x.closeVisit(3);
        x.startVisit(0, 20);
        CHECK.due("19: a failure in between", 1, x.isInService(4));
        x.record(4, 0, 10);
        x.record(4, 0, -11);
        CHECK.due("24: twice the tolerance", true, x.testPasses(4, 0));
        CHECK.due("24: more than twice", false, x.testPasses(4, 1));
    }

    private static void record() {
        ScaleInspection x = withVisit();
        x.startVisit(1, 10);
        CHECK.due("20: no such visit", -1, x.record(2, 0, 0));
        for (int visit : NO_SUCH) {
            CHECK.due("20: visit " + visit, -1, x.record(visit, 0, 0));
        }
        for (int masses : new int[] {-1, 32, 33, 1 << 10, 1 << 31, Integer.MAX_VALUE}) {
            CHECK.due("20: masses " + masses, -1, x.record(0, masses, 0));
        }
        for (int reading : new int[] {-2000000, 2000000, Integer.MIN_VALUE, Integer.MAX_VALUE}) {
            CHECK.due("20: reading " + reading, -1, x.record(0, 0, reading));
        }
        CHECK.due("20: load 4999 + 1000 of 5000", -1, x.record(0, M2500 | M2499 | M1000, 5000));
        CHECK.due("20: load 210 of 140", -1, x.record(1, M140 | M70, 210));
        CHECK.due("20: just the capacity", 0, x.record(1, M140, 140));
        CHECK.due("20: the next", 1, x.record(1, M70, 71));
        CHECK.due("20: another visit", 0, x.record(0, 0, -1999999));
        CHECK.due("20: the greatest reading", 1, x.record(0, 0, 1999999));
        CHECK.due("21: testCount(0)", 2, x.testCount(0));
        CHECK.due("21: testCount(1)", 2, x.testCount(1));
        CHECK.due("23: the least error", -1999999, x.testError(0, 0));
        CHECK.due("23: the greatest error", 1999999, x.testError(0, 1));
        CHECK.due("22: load 140", 140, x.testLoad(1, 0));
        CHECK.due("22: load 70", 70, x.testLoad(1, 1));
        CHECK.due("23: error 1", 1, x.testError(1, 1));
    }

    private static void recordLimits() {
        ScaleInspection x = withVisit();
        for (int test = 0; test < 8; test++) {
            CHECK.due("20: test " + test, test, x.record(0, test % 2, test));
        }
        CHECK.due("20: FULL", -3, x.record(0, 0, 0));
        CHECK.due("20: INVALID before FULL", -1, x.record(0, 0, 2000000));
        CHECK.due("21: 8 tests", 8, x.testCount(0));
        CHECK.due("20: undoDepth", 9, x.undoDepth());
        x.closeVisit(0);
        CHECK.due("20: NONE before FULL", -2, x.record(0, 0, 0));
        CHECK.due("20: INVALID before NONE", -1, x.record(0, 64, 0));
        CHECK.due("20: a load too great before NONE", -1, x.record(0, 31, 0));
        x.startVisit(0, 10);
        CHECK.due("21: a new visit has no test", 0, x.testCount(1));
    }

    private static void testAnswers() {
        ScaleInspection x = withVisit();
        x.record(0, M1000, 1005);
        x.record(0, M1000, 995);
        x.record(0, M1000, 1006);
        x.record(0, M1000, 994);
        x.record(0, M2500 | M2499, 4990);
        int[] errors = {5, -5, 6, -6, -9};
        for (int test = 0; test < 5; test++) {
            CHECK.due("22: test " + test, test == 4 ? 4999 : 1000, x.testLoad(0, test));
            CHECK.due("23: test " + test, errors[test], x.testError(0, test));
            CHECK.due("24: test " + test, test < 2, x.testPasses(0, test));
        }
        for (int test : new int[] {-1, 5, 8, Integer.MIN_VALUE, Integer.MAX_VALUE}) {
            noSuchTest(x, 0, test);
        }
        for (int visit : NO_SUCH) {
            noSuchTest(x, visit, 0);
        }
    }

    private static void noSuchTest(ScaleInspection x, int visit, int test) {
        Class<?> due = IndexOutOfBoundsException.class;
        CHECK.dueThrow("22: " + visit + ", " + test, due, () -> x.testLoad(visit, test));
        CHECK.dueThrow("23: " + visit + ", " + test, due, () -> x.testError(visit, test));
        CHECK.dueThrow("24: " + visit + ", " + test, due, () -> x.testPasses(visit, test));
    }

    private static void verdicts() {
        ScaleInspection x = withVisit();
        CHECK.due("25: no test", 1, x.verdict(0));
        x.record(0, M2500, 2500);
        x.record(0, M2500, 2500);
        CHECK.due("25: no empty test", 1, x.verdict(0));
        x.record(0, 0, 0);
        CHECK.due("25: all is there", 0, x.verdict(0));
        x.record(0, M1000, 1005);
        CHECK.due("25: just within the tolerance", 0, x.verdict(0));
        x.record(0, M1000, 999);
        CHECK.due("25: repeats differ", 5, x.verdict(0));
        x.record(0, M1000, 1006);
        CHECK.due("25: a test fails", 4, x.verdict(0));

        ScaleInspection y = withVisit();
        y.record(0, 0, 99);
        y.record(0, M2499, 2499);
        y.record(0, M2499, 2499);
        CHECK.due("25: less than half the capacity", 2, y.verdict(0));
        y.record(0, M2500, 2500);
        CHECK.due("25: half the capacity, but a failure", 4, y.verdict(0));

        ScaleInspection z = withVisit();
        z.record(0, 0, 9);
        z.record(0, 0, 0);
        z.record(0, M2500, 2500);
        z.record(0, M2500 | M1000, 3500);
        CHECK.due("25: only the empty set twice", 3, z.verdict(0));
        z.record(0, M2500 | M1000, 3500);
        CHECK.due("25: a failure", 4, z.verdict(0));
    }

    private static void verdictTolerance() {
        ScaleInspection x = withVisit();
        x.record(0, 0, -3);
        x.record(0, M2500, 2500);
        x.record(0, M2500, 2500);
        x.record(0, 0, 2);
        CHECK.due("25: empty tests differ by the tolerance", 0, x.verdict(0));
        x.record(0, 0, 3);
        CHECK.due("25: empty tests differ by more", 5, x.verdict(0));
        CHECK.due("27: an adjustment of 0", 5, x.adjustedVerdict(0));

        // Above 500 divisions the tolerance is 10, and in service 20.
        ScaleInspection y = Text.market("trader;scale 0 1 10 9000;mass 5001;mass 5000;");
        y.startVisit(0, 0);
        y.record(0, 0, 0);
        y.record(0, 1, 5011);
        y.record(0, 1, 5001);
        CHECK.due("25: differ by 10", 0, y.verdict(0));
        y.closeVisit(0);
        y.startVisit(0, 0);
        y.record(1, 0, 10);
        y.record(1, 1, 5021);
        y.record(1, 1, 5001);
        CHECK.due("25: differ by 20 in service", 0, y.verdict(1));
        y.record(1, 1, 5000);
        CHECK.due("25: differ by 21 in service", 5, y.verdict(1));
        y.record(1, 2, 5011);
        CHECK.due("25: 11 at 5000", 4, y.verdict(1));
    }

    /** A test that was undone plays no part in verdicts and adjustments. */
    private static void undoneTests() {
        ScaleInspection x = withVisit();
        x.record(0, 0, 0);
        CHECK.due("undo", true, x.undo());
        x.record(0, M2500, 2500);
        CHECK.due("25: no empty test", 1, x.verdict(0));
        x.undo();
        x.record(0, 0, 0);
        x.record(0, M2500, 2500);
        x.undo();
        CHECK.due("25: no half load", 2, x.verdict(0));
        x.record(0, M2500, 2500);
        x.record(0, M2500, 2500);
        x.undo();
        CHECK.due("25: no repeat", 3, x.verdict(0));
        x.record(0, M2500, 2500);
        x.record(0, M2500, 2506);
        CHECK.due("25: a failure", 4, x.verdict(0));
        x.undo();
        CHECK.due("25: no failure", 0, x.verdict(0));
        CHECK.due("26: no error", 0, x.adjustment(0));

        // The half load may come first, and the repeat last.
        ScaleInspection y = withVisit();
        y.record(0, M2500, 2500);
        y.record(0, 0, 0);
        CHECK.due("25: half load first", 3, y.verdict(0));
        y.record(0, M1000, 1000);
        y.record(0, M1000, 1000);
        CHECK.due("25: repeat last", 0, y.verdict(0));
    }

    private static void adjustment() {
        ScaleInspection x = withVisit();
        for (int visit : new int[] {-1, 1, Integer.MIN_VALUE, Integer.MAX_VALUE}) {
            CHECK.dueThrow("26: visit " + visit, IndexOutOfBoundsException.class, () -> x.adjustment(visit));
        }
        CHECK.dueThrow("26: no test", IllegalStateException.class, () -> x.adjustment(0));
        x.record(0, 0, -3);
        CHECK.due("26: one test", -3, x.adjustment(0));
        x.record(0, 0, -4);
        CHECK.due("26: -7 / 2", -4, x.adjustment(0));
        x.record(0, M1000, 1009);
        CHECK.due("26: 5 / 2", 2, x.adjustment(0));
        x.record(0, M1000, 1000);
        CHECK.due("26: one in between", 2, x.adjustment(0));
        x.record(0, 0, -10);
        CHECK.due("26: -1 / 2", -1, x.adjustment(0));
        x.closeVisit(0);
        CHECK.due("26: closed", -1, x.adjustment(0));
        x.startVisit(0, 10);
        x.record(1, 0, 1999999);
        x.record(1, 0, 1999998);
        CHECK.due("26: great errors", 1999998, x.adjustment(1));
    }

    private static void adjustedVerdict() {
        ScaleInspection x = withVisit();
        CHECK.due("27: no test", 1, x.adjustedVerdict(0));
        x.record(0, 0, 100);
        CHECK.due("27: no half load", 2, x.adjustedVerdict(0));
        x.record(0, M2500, 2610);
        CHECK.due("27: no repeat", 3, x.adjustedVerdict(0));
        x.record(0, M2500, 2605);
        CHECK.due("25: it fails", 4, x.verdict(0));
        CHECK.due("27: adjusted by 105", 0, x.adjustedVerdict(0));
        x.record(0, M2500, 2604);
        CHECK.due("27: repeats differ by 6", 5, x.adjustedVerdict(0));
        x.record(0, M1000, 1099);
        CHECK.due("26: 104", 104, x.adjustment(0));
        CHECK.due("27: 110 - 104 is too much", 4, x.adjustedVerdict(0));
        x.closeVisit(0);
        CHECK.due("27: closed", 4, x.adjustedVerdict(0));
        ScaleInspection y = withVisit();
        y.record(0, 0, -100);
        y.record(0, M2500, 2390);
        y.record(0, M2500, 2390);
        CHECK.due("27: below zero", 0, y.adjustedVerdict(0));
        y.record(0, M1000, 889);
        CHECK.due("26: -106", -106, y.adjustment(0));
        CHECK.due("27: 106 - 100 is too much", 4, y.adjustedVerdict(0));
    }

    private static void closeVisit() {
        ScaleInspection x = withVisit();
        CHECK.due("29: open", 0, x.isClosed(0));
        CHECK.due("28: no such visit", -1, x.closeVisit(1));
        pass(x, 0);
        CHECK.due("29: closed", 1, x.isClosed(0));
        CHECK.due("28: closed already", -2, x.closeVisit(0));
        CHECK.due("25: the verdict stays", 0, x.verdict(0));
        CHECK.due("29: no such visit", -1, x.isClosed(1));
        x.startVisit(0, 10);
        CHECK.due("28: without a test", 1, x.closeVisit(1));
        x.startVisit(1, 10);
        x.record(2, 0, 0);
        CHECK.due("28: without a load", 2, x.closeVisit(2));
        x.startVisit(1, 10);
        x.record(3, 0, 0);
        x.record(3, M70, 70);
        CHECK.due("28: without a repeat", 3, x.closeVisit(3));
        x.startVisit(1, 10);
        x.record(4, 0, 5);
        x.record(4, M70, 70);
        x.record(4, M70, 70);
        CHECK.due("28: with a failure", 4, x.closeVisit(4));
        x.startVisit(1, 10);
        x.record(5, 0, 0);
        x.record(5, M70, 67);
        x.record(5, M70, 72);
        CHECK.due("28: with repeats that differ", 5, x.closeVisit(5));
        CHECK.due("29: closed", 1, x.isClosed(5));
    }
}
