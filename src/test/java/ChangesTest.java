/** Promises 48 to 51: undo and snapshots. */
public final class ChangesTest {
    private static final Check CHECK = new Check("ChangesTest");
    private static final String MARKET = "trader;scale 0 0 10 1000;scale 0 0 10 1000;mass 500;set 12 maybe;set 3;";

    public static void main(String[] args) {
        undoNothing();
        undoEach();
        undoTheLatestTwelve();
        refusedCallsAreNoChanges();
        undoneChangesAreGone();
        snapshotSlots();
        snapshotHoldsAll();
        snapshotKeepsServiceAndVerdict();
        snapshotKeepsEveryVisit();
        CHECK.finish();
    }

    private static void undoNothing() {
        ScaleInspection x = new ScaleInspection();
        CHECK.due("48: nothing", false, x.undo());
        CHECK.due("49: nothing", 0, x.undoDepth());
        x = Text.market(MARKET);
        CHECK.due("48: a parse is no change", false, x.undo());
    }

    private static void undoEach() {
        ScaleInspection x = Text.market(MARKET);
        x.startVisit(1, 40);
        x.record(0, 0, 3);
        x.record(0, 1, 507);
        x.closeVisit(0);
        x.weigh(0, 7, 56, 2);
        x.weigh(0, 1, 2, 0);
        x.weigh(1, 1, 2, 0);
        CHECK.due("49: seven", 7, x.undoDepth());

        CHECK.due("48: weigh of set 1", true, x.undo());
        CHECK.due("48: set 1", 6, x.hypothesisCount(1));
        CHECK.due("48: set 1", 0, x.weighingCount(1));
        CHECK.due("48: set 0 stays", 4, x.hypothesisCount(0));
        CHECK.due("48: weigh of set 0", true, x.undo());
        CHECK.due("48: hypotheses", 6, x.hypothesisCount(0));
        CHECK.due("48: heavy", 56, x.heavySuspects(0));
        CHECK.due("48: light", 7, x.lightSuspects(0));
        CHECK.due("48: one weighing", 1, x.weighingCount(0));
        CHECK.due("48: the first weighing", true, x.undo());
        CHECK.due("48: all hypotheses", 25, x.hypothesisCount(0));
        CHECK.due("48: genuine again", 1, x.canBeGenuine(0));

        CHECK.due("48: it is closed", 1, x.isClosed(0));
        CHECK.due("30: rejected", 3, x.sealState(1, 40));
        CHECK.due("48: closeVisit", true, x.undo());
        CHECK.due("48: open again", 0, x.isClosed(0));
        CHECK.due("30: new again", 0, x.sealState(1, 40));
        CHECK.due("33: new again", 4, x.risk(1, 40));
        CHECK.due("16: open again", -2, x.startVisit(1, 40));
        CHECK.due("48: record", true, x.undo());
        CHECK.due("48: one test", 1, x.testCount(0));
        CHECK.due("48: its error", 3, x.adjustment(0));
        CHECK.due("48: record", true, x.undo());
        CHECK.due("48: no test", 0, x.testCount(0));
        CHECK.due("49: one", 1, x.undoDepth());
        CHECK.due("48: startVisit", true, x.undo());
        CHECK.due("48: no visit", 0, x.visitCount());
        CHECK.due("49: none", 0, x.undoDepth());
        CHECK.due("48: nothing more", false, x.undo());
        CHECK.due("48: an earlier day", 0, x.startVisit(1, 39));
    }

    private static void undoTheLatestTwelve() {
        ScaleInspection x = Text.market(MARKET);
        x.startVisit(0, 1);
        for (int test = 0; test < 8; test++) {
            x.record(0, 0, test);
            CHECK.due("49: depth", test + 2, x.undoDepth());
        }
        x.startVisit(1, 1);
        for (int test = 0; test < 8; test++) {
            x.record(1, 0, test);
            CHECK.due("49: depth", Math.min(12, test + 11), x.undoDepth());
        }
        for (int i = 11; i >= 0; i--) {
            CHECK.due("48: undo", true, x.undo());
            CHECK.due("49: depth", i, x.undoDepth());
        }
        CHECK.due("48: the thirteenth", false, x.undo());
        CHECK.due("48: one visit", 1, x.visitCount());
        CHECK.due("48: five tests", 5, x.testCount(0));
        CHECK.due("48: the last one", 4, x.testError(0, 4));
        CHECK.due("48: a new change", 5, x.record(0, 0, 0));
        CHECK.due("49: depth", 1, x.undoDepth());
        CHECK.due("48: is undone", true, x.undo());
        CHECK.due("48: alone", false, x.undo());
    }

    private static void refusedCallsAreNoChanges() {
        ScaleInspection x = Text.market(MARKET);
        x.startVisit(0, 1);
        x.startVisit(0, 1);
        x.startVisit(5, 1);
        x.record(0, 9, 0);
        x.record(1, 0, 0);
        x.closeVisit(1);
        x.weigh(1, 1, 1, 0);
        x.weigh(1, 1, 2, 1);
        x.weigh(1, 1, 2, 2);
        x.closeVisit(0);
        x.closeVisit(0);
        x.record(0, 0, 0);
        x.saveSnapshot(0);
        x.saveSnapshot(2);
        x.append(0, 0, 0, 0, 0);
        x.parse(20);
        CHECK.due("49: three changes", 3, x.undoDepth());
    }

    private static void undoneChangesAreGone() {
        ScaleInspection x = Text.market(MARKET);
        x.weigh(0, 1, 2, 0);
        x.weigh(0, 4, 8, 0);
        x.undo();
        x.weigh(0, 16, 32, 1);
        CHECK.due("49: two", 2, x.undoDepth());
        x.undo();
        CHECK.due("48: the first one stays", 21, x.hypothesisCount(0));
        CHECK.due("48: its weights", 4092, x.heavySuspects(0));
        x.undo();
        CHECK.due("48: none", 25, x.hypothesisCount(0));
    }

    private static void snapshotSlots() {
        ScaleInspection x = new ScaleInspection();
        for (int slot : new int[] {-1, 2, Integer.MIN_VALUE, Integer.MAX_VALUE}) {
            CHECK.due("50: slot " + slot, false, x.saveSnapshot(slot));
            CHECK.due("51: slot " + slot, false, x.restoreSnapshot(slot));
        }
        CHECK.due("51: empty slot 0", false, x.restoreSnapshot(0));
        CHECK.due("50: slot 1", true, x.saveSnapshot(1));
        CHECK.due("51: slot 0 stays empty", false, x.restoreSnapshot(0));
        CHECK.due("51: slot 1", true, x.restoreSnapshot(1));
        CHECK.due("51: slot 1 stays stored", true, x.restoreSnapshot(1));
        CHECK.due("51: no slot 2", false, x.restoreSnapshot(2));
        CHECK.due("51: no slot -1", false, x.restoreSnapshot(-1));
        CHECK.due("50: slot 0 too", true, x.saveSnapshot(0));
        CHECK.due("51: no slot -1", false, x.restoreSnapshot(-1));
        CHECK.due("51: no slot MIN", false, x.restoreSnapshot(Integer.MIN_VALUE));

        ScaleInspection y = Text.market(MARKET);
        y.weigh(0, 1, 2, 0);
        y.startVisit(0, 5);
        CHECK.due("51: an empty slot", false, y.restoreSnapshot(0));
        CHECK.due("51: no such slot", false, y.restoreSnapshot(2));
        CHECK.due("51: nothing changed", 2, y.undoDepth());
        CHECK.due("51: nothing changed", 1, y.visitCount());
    }

    private static void snapshotHoldsAll() {
        ScaleInspection x = Text.market(MARKET);
        x.startVisit(0, 5);
        x.record(0, 1, 503);
        x.weigh(0, 3, 12, 1);
        CHECK.due("50: slot 0", true, x.saveSnapshot(0));
        CHECK.due("50: history stays", 3, x.undoDepth());
        x.record(0, 0, 4);
        x.closeVisit(0);
        x.startVisit(1, 9);
        x.weigh(0, 1, 2, 1);
        x.weigh(1, 1, 2, 0);
        CHECK.due("50: slot 1", true, x.saveSnapshot(1));
        CHECK.due("51: slot 0", true, x.restoreSnapshot(0));
        CHECK.due("51: history", 0, x.undoDepth());
        CHECK.due("51: undo", false, x.undo());
        CHECK.due("51: visits", 1, x.visitCount());
        CHECK.due("51: tests", 1, x.testCount(0));
        CHECK.due("51: open", 0, x.isClosed(0));
        CHECK.due("51: error", 3, x.testError(0, 0));
        CHECK.due("51: load", 500, x.testLoad(0, 0));
        CHECK.due("51: hypotheses", 4, x.hypothesisCount(0));
        CHECK.due("51: weighings", 1, x.weighingCount(0));
        CHECK.due("51: set 1", 6, x.hypothesisCount(1));
        // What comes after a restore leaves the stored snapshot alone.
        x.record(0, 1, 777);
        x.weigh(0, 3, 12, 1);
        x.closeVisit(0);
        CHECK.due("51: slot 0 again", true, x.restoreSnapshot(0));
        CHECK.due("51: tests again", 1, x.testCount(0));
        CHECK.due("51: weighings again", 1, x.weighingCount(0));
        CHECK.due("51: slot 1", true, x.restoreSnapshot(1));
        CHECK.due("51: visits of slot 1", 2, x.visitCount());
        CHECK.due("51: its scale", 1, x.visitScale(1));
        CHECK.due("51: closed", 1, x.isClosed(0));
        CHECK.due("51: tests", 2, x.testCount(0));
        CHECK.due("51: errors", 4, x.testError(0, 1));
        CHECK.due("51: set 0", 1, x.hypothesisCount(0));
        CHECK.due("51: set 1", 2, x.hypothesisCount(1));
        CHECK.due("51: a day", -1, x.startVisit(0, 4));
        // A later save takes the place of an earlier one.
        x.restoreSnapshot(0);
        CHECK.due("50: slot 1 anew", true, x.saveSnapshot(1));
        x.weigh(1, 1, 2, 0);
        x.restoreSnapshot(1);
        CHECK.due("50: as slot 0", 1, x.visitCount());
        CHECK.due("50: as slot 0", 6, x.hypothesisCount(1));
    }

    /** A snapshot of thirty visits, restored after the latest of them have been undone and replaced. */
    private static void snapshotKeepsEveryVisit() {
        ScaleInspection x = Text.market("trader;scale 0 0 10 1000;scale 0 0 10 1000;mass 500;mass 30;set 3 maybe;");
        for (int visit = 0; visit < 30; visit++) {
            x.startVisit(visit % 2, visit);
            x.record(visit, visit % 4, 10 * visit);
            x.record(visit, 0, visit);
            x.closeVisit(visit);
        }
        x.saveSnapshot(0);
        for (int i = 0; i < 12; i++) {
            CHECK.due("48: undo", true, x.undo());
        }
        for (int visit = 27; visit < 30; visit++) {
            x.startVisit(1 - visit % 2, 50);
            x.record(visit, 1, 1);
            x.record(visit, 2, 2);
            x.record(visit, 2, 2);
        }
        x.weigh(0, 1, 2, 1);
        CHECK.due("42: not genuine", 0, x.canBeGenuine(0));
        CHECK.due("51: slot 0", true, x.restoreSnapshot(0));
        CHECK.due("42: genuine again", 1, x.canBeGenuine(0));
        CHECK.due("39: seven hypotheses", 7, x.hypothesisCount(0));
        CHECK.due("17: thirty visits", 30, x.visitCount());
        for (int visit = 0; visit < 30; visit++) {
            int load = (visit % 2) * 500 + (visit % 4 / 2) * 30;
            CHECK.due("18: scale of visit " + visit, visit % 2, x.visitScale(visit));
            CHECK.due("21: tests of visit " + visit, 2, x.testCount(visit));
            CHECK.due("22: load of visit " + visit, load, x.testLoad(visit, 0));
            CHECK.due("23: error of visit " + visit, 10 * visit - load, x.testError(visit, 0));
            CHECK.due("23: other error of visit " + visit, visit, x.testError(visit, 1));
            CHECK.due("29: closed " + visit, 1, x.isClosed(visit));
        }
        otherVisitsOnSamePlaces();
    }

    /** The places of undone visits and tests are used again; a restore must bring back what stood there. */
    private static void otherVisitsOnSamePlaces() {
        ScaleInspection x = Text.market("trader;scale 0 0 10 1000;scale 0 0 10 1000;mass 500;mass 30;");
        x.startVisit(1, 9);
        x.record(0, 1, 501);
        x.record(0, 0, 2);
        x.saveSnapshot(0);
        x.undo();
        x.undo();
        x.undo();
        CHECK.due("16: another visit", 0, x.startVisit(0, 3));
        x.record(0, 2, 37);
        x.record(0, 2, 37);
        x.record(0, 3, 530);
        CHECK.due("51: slot 0", true, x.restoreSnapshot(0));
        CHECK.due("51: scale", 1, x.visitScale(0));
        CHECK.due("51: tests", 2, x.testCount(0));
        CHECK.due("51: load", 500, x.testLoad(0, 0));
        CHECK.due("51: error", 1, x.testError(0, 0));
        CHECK.due("51: load", 0, x.testLoad(0, 1));
        CHECK.due("51: error", 2, x.testError(0, 1));
        CHECK.due("51: masses", 3, x.verdict(0));
        CHECK.due("51: a test", 2, x.record(0, 1, 500));
        CHECK.due("51: masses repeat", 0, x.verdict(0));
        CHECK.due("51: day", -1, x.startVisit(1, 8));
    }

    private static void snapshotKeepsServiceAndVerdict() {
        ScaleInspection x = Text.market(MARKET);
        int passed = x.startVisit(0, 5);
        x.record(passed, 0, 0);
        x.record(passed, 1, 500);
        x.record(passed, 1, 500);
        x.closeVisit(passed);
        x.startVisit(0, 6);
        x.saveSnapshot(0);
        x.saveSnapshot(1);
        for (int i = 0; i < 5; i++) {
            x.undo();
        }
        x.record(0, 0, 60);
        x.closeVisit(0);
        x.startVisit(0, 8);
        CHECK.due("19: not in service", 0, x.isInService(1));
        x.restoreSnapshot(1);
        CHECK.due("51: in service", 1, x.isInService(1));
        CHECK.due("51: verdict", 0, x.verdict(0));
        CHECK.due("51: seal", 1, x.sealState(0, 5));
        CHECK.due("51: open visit", -2, x.startVisit(0, 7));
        x.closeVisit(1);
        CHECK.due("51: rejected from day 6 on", 3, x.sealState(0, 6));
        CHECK.due("51: the day before", 1, x.sealState(0, 5));
    }
}
