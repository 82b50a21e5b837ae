import java.util.function.Supplier;
import java.util.function.ToLongFunction;

/** The edges of promises 48 to 51, each sentence of the document that names one; the sentence stands above its test. */
public final class ChangesEdgesTest {
    private static final Check CHECK = new Check("ChangesEdgesTest");
    private static final int MIN = Integer.MIN_VALUE;
    private static final int MAX = Integer.MAX_VALUE;

    public static void main(String[] args) {
        nothingToUndo();
        twelveOrThirteen();
        depthOfEachNumber();
        eachKindOfChange();
        onlyWhatSucceeds();
        questionsAreNoChanges();
        undoIsNoChange();
        undoBeyondAnEarlierUndo();
        everyCallCounts();
        undoneChangesOfEachKind();
        noSuchSlot();
        emptySlot();
        lastSlot();
        inPlaceOfAnEarlierOne();
        savingIsNoChange();
        snapshotStaysStored();
        historyIsClearedInAnyCase();
        nothingToUndoAfterRestore();
        slotsAfterParse();
        whatASnapshotLeaves();
        snapshotOfNothing();
        snapshotOfTheMost();
        snapshotOfEveryPlace();
        CHECK.finish();
    }

    private static void unchanged(String call, long want, Supplier<ScaleInspection> maker,
            ToLongFunction<ScaleInspection> run) {
        Watch.unchanged(CHECK, call, want, maker, run);
    }

    private static long number(boolean answer) {
        return answer ? 1 : 0;
    }

    // 48: "Returns true; false if there is none."
    private static void nothingToUndo() {
        unchanged("48: a new object", 0, ScaleInspection::new, x -> number(x.undo()));
        unchanged("48: a new market", 0, () -> Text.market(Scene.MARKET), x -> number(x.undo()));
        ScaleInspection x = Text.market(Scene.MARKET);
        x.startVisit(0, 10);
        CHECK.due("48: one change", true, x.undo());
        CHECK.due("48: none more", false, x.undo());
        CHECK.due("48: nor now", false, x.undo());
        CHECK.due("17: no visit", 0, x.visitCount());
        CHECK.due("49: depth", 0, x.undoDepth());
    }

    private static ScaleInspection weighed(int weighings) {
        ScaleInspection x = Text.market(Scene.MARKET);
        for (int i = 0; i < weighings; i++) {
            x.weigh(0, 1, 2, 0);
        }
        return x;
    }

    // "The latest 12 changes can be undone, the latest first."
    private static void twelveOrThirteen() {
        for (int changes = 0; changes <= 20; changes++) {
            ScaleInspection x = weighed(changes);
            int undone = Math.min(12, changes);
            for (int i = 0; i < undone; i++) {
                CHECK.due("48: change " + i + " back from " + changes, true, x.undo());
                CHECK.due("38: weighings", changes - i - 1, x.weighingCount(0));
            }
            CHECK.due("48: no more than twelve of " + changes, false, x.undo());
            CHECK.due("38: weighings", changes - undone, x.weighingCount(0));
        }
        // One more change takes the place of the oldest.
        ScaleInspection x = Text.market(Scene.MARKET);
        x.startVisit(0, 10);
        for (int i = 0; i < 11; i++) {
            x.weigh(0, 1, 2, 0);
        }
        ScaleInspection y = Text.market(Scene.MARKET);
        y.startVisit(0, 10);
        for (int i = 0; i < 12; i++) {
            y.weigh(0, 1, 2, 0);
        }
        for (int i = 0; i < 13; i++) {
            x.undo();
            y.undo();
        }
        CHECK.due("48: the twelfth change is undone", 0, x.visitCount());
        CHECK.due("48: the thirteenth is not", 1, y.visitCount());
    }

    // 49: "Returns the number of changes that can be undone, 0 to 12."
    private static void depthOfEachNumber() {
        for (int changes = 0; changes <= 20; changes++) {
            ScaleInspection x = weighed(changes);
            CHECK.due("49: " + changes + " changes", Math.min(12, changes), x.undoDepth());
            x.undo();
            CHECK.due("49: one is undone", Math.max(0, Math.min(12, changes) - 1), x.undoDepth());
        }
        CHECK.due("49: a new object", 0, new ScaleInspection().undoDepth());
    }

    // "startVisit, record, closeVisit and weigh are changes if they succeed."
    private static void eachKindOfChange() {
        ScaleInspection x = Text.market(Scene.MARKET);
        CHECK.due("16: startVisit", 0, x.startVisit(0, 10));
        CHECK.due("49: startVisit", 1, x.undoDepth());
        CHECK.due("20: record", 0, x.record(0, 0, 0));
        CHECK.due("49: record", 2, x.undoDepth());
        CHECK.due("28: closeVisit", 2, x.closeVisit(0));
        CHECK.due("49: closeVisit", 3, x.undoDepth());
        CHECK.due("37: weigh", 21, x.weigh(0, 1, 2, 0));
        CHECK.due("49: weigh", 4, x.undoDepth());
        CHECK.due("37: weigh that tells nothing", 21, x.weigh(0, 1, 2, 0));
        CHECK.due("49: weigh that tells nothing", 5, x.undoDepth());
    }

    private static void onlyWhatSucceeds() {
        ScaleInspection x = Scene.busy();
        x.startVisit(0, 30);
        x.startVisit(2, 30);
        x.startVisit(1, 19);
        x.record(0, 0, 0);
        x.record(2, 4, 0);
        x.record(3, 0, 0);
        x.closeVisit(0);
        x.closeVisit(3);
        x.weigh(1, 1, 2, 0);
        x.weigh(1, 1, 1, 0);
        x.parse(21);
        CHECK.due("49: eleven as before", 11, x.undoDepth());
        CHECK.due("what is seen afterwards", Watch.walked(Scene.busy()), Watch.walked(x));
        CHECK.due("49: FULL visits", 12, depthAfter(Scene.thirtyVisits(), y -> y.startVisit(0, 50)));
        CHECK.due("49: FULL tests", 9, depthAfter(Scene.fullVisit(), y -> y.record(0, 0, 0)));
        CHECK.due("49: FULL weighings", 12, depthAfter(Scene.twentyWeighings(), y -> y.weigh(1, 1, 2, 1)));
    }

    private static int depthAfter(ScaleInspection x, ToLongFunction<ScaleInspection> run) {
        CHECK.due("FULL", -3, run.applyAsLong(x));
        return x.undoDepth();
    }

    private static void questionsAreNoChanges() {
        ScaleInspection x = Scene.busy();
        for (int i = -1; i < 4; i++) {
            x.trader(i);
            x.capacity(i);
            x.massValue(i);
            x.fewestMasses(i * 250);
            x.closestLoad(i * 250);
            x.twoPans(i * 250);
            x.verdict(i);
            x.adjustedVerdict(i);
            x.isClosed(i);
            x.isInService(i);
            x.sealState(i, 30);
            x.expiryDay(i, 30);
            x.scalesWith(i, 30);
            x.risk(i, 30);
            x.riskiestTrader(i);
            x.lot(i, i, 30);
            x.finding(i);
            x.weighingsNeeded(i);
            x.bestLeft(i);
            x.bestRight(i);
            x.fewestWeighings(i, i == 3);
            x.saveSnapshot(i + 4);
        }
        CHECK.due("what is seen after questions", Watch.walked(Scene.busy()), Watch.walked(x));
    }

    // 48: "Undoes the latest change that has not been undone.": an undo is no change that could be undone.
    private static void undoIsNoChange() {
        ScaleInspection x = weighed(3);
        CHECK.due("48: the third", true, x.undo());
        CHECK.due("48: the second", true, x.undo());
        CHECK.due("38: one is left", 1, x.weighingCount(0));
        CHECK.due("49: one is left", 1, x.undoDepth());
    }

    // Undone changes make no room for older ones: of fifteen, the latest twelve are undone, and then new ones.
    private static void undoBeyondAnEarlierUndo() {
        ScaleInspection x = weighed(15);
        for (int i = 0; i < 5; i++) {
            x.undo();
        }
        CHECK.due("49: seven are left", 7, x.undoDepth());
        for (int i = 0; i < 3; i++) {
            x.weigh(0, 4, 8, 0);
        }
        CHECK.due("49: three more", 10, x.undoDepth());
        for (int i = 0; i < 10; i++) {
            CHECK.due("48: back", true, x.undo());
        }
        CHECK.due("48: the first three stay", false, x.undo());
        CHECK.due("38: three", 3, x.weighingCount(0));
        CHECK.due("40: of one kind", 4092, x.heavySuspects(0));
        for (int i = 0; i < 14; i++) {
            x.weigh(0, 4, 8, 0);
        }
        CHECK.due("49: twelve", 12, x.undoDepth());
        for (int i = 0; i < 12; i++) {
            x.undo();
        }
        CHECK.due("38: the first three and two more", 5, x.weighingCount(0));
        CHECK.due("40: of two kinds", 4080, x.heavySuspects(0));
    }

    // "An object is used for at most 512 calls after it has been made": each of them answers, the last one too.
    private static void everyCallCounts() {
        ScaleInspection x = new ScaleInspection();
        int[] w = Text.words("set 12 maybe;", 0);
        CHECK.due("2: the first call", 20, x.append(w[0], w[1], w[2], w[3], w[4]));
        CHECK.due("3: the second call", 0, x.parse(13));
        CHECK.due("37: the third call", 21, x.weigh(0, 1, 2, 0));
        for (int call = 4; call < 512; call += 2) {
            CHECK.due("37: call " + call, 2, x.weigh(0, 4, 8, 1));
            CHECK.due("48: call " + (call + 1), true, x.undo());
        }
        CHECK.due("39: call 512", 21, x.hypothesisCount(0));
    }

    // 48: what each undone change leaves is what stood before it.
    private static void undoneChangesOfEachKind() {
        String[] names = {"startVisit", "record", "closeVisit", "weigh", "weigh to one hypothesis"};
        for (int kind = 0; kind < names.length; kind++) {
            int which = kind;
            unchanged("48: " + names[kind] + " and undo", 1, ChangesEdgesTest::somewhat, x -> {
                switch (which) {
                    case 0:
                        CHECK.due("16: startVisit", 2, x.startVisit(1, 31));
                        break;
                    case 1:
                        CHECK.due("20: record", 1, x.record(1, 0, 4));
                        break;
                    case 2:
                        CHECK.due("28: closeVisit", 1, x.closeVisit(1));
                        break;
                    case 3:
                        CHECK.due("37: no longer genuine", 2, x.weigh(0, 64, 128, 1));
                        break;
                    default:
                        CHECK.due("37: all are genuine", 1, x.weigh(0, 448, 3584, 0));
                        break;
                }
                return number(x.undo());
            });
        }
    }

    /** Visit 0 has passed, visit 1 is open; fewer than twelve changes, so that none is lost by one more. */
    private static ScaleInspection somewhat() {
        ScaleInspection x = Text.market(Scene.MARKET);
        Scene.pass(x, 0, 10);
        x.saveSnapshot(1);
        x.startVisit(0, 30);
        x.record(1, 1, 503);
        x.weigh(0, 7, 56, 0);
        return x;
    }

    // 50 and 51: "slot: 0 or 1", "false if there is no such slot", "false, with nothing changed, if there is no such
    // slot or it is empty."
    private static void noSuchSlot() {
        for (int slot : new int[] {-1, 2, 3, MIN, MAX}) {
            unchanged("50: saveSnapshot(" + slot + ")", 0, Scene::busy, x -> number(x.saveSnapshot(slot)));
            unchanged("51: restoreSnapshot(" + slot + ")", 0, Scene::busy, x -> number(x.restoreSnapshot(slot)));
            unchanged("51: restoreSnapshot(" + slot + "), both slots full", 0, ChangesEdgesTest::bothSlots,
                    x -> number(x.restoreSnapshot(slot)));
        }
        for (int slot = 0; slot < 2; slot++) {
            ScaleInspection x = Scene.busy();
            CHECK.due("50: saveSnapshot(" + slot + ")", true, x.saveSnapshot(slot));
            x.undo();
            CHECK.due("51: restoreSnapshot(" + slot + ")", true, x.restoreSnapshot(slot));
            CHECK.due("21: the test is back", 1, x.testCount(2));
        }
    }

    private static ScaleInspection bothSlots() {
        ScaleInspection x = Scene.busy();
        x.saveSnapshot(1);
        x.record(2, 0, 2);
        return x;
    }

    // 51: "false, with nothing changed, if .. it is empty."
    private static void emptySlot() {
        unchanged("51: an empty slot", 0, Scene::busy, x -> number(x.restoreSnapshot(1)));
        unchanged("51: a new object, slot 0", 0, ScaleInspection::new, x -> number(x.restoreSnapshot(0)));
        unchanged("51: a new object, slot 1", 0, ScaleInspection::new, x -> number(x.restoreSnapshot(1)));
        unchanged("51: slot 0 is empty, slot 1 is not", 0, ChangesEdgesTest::somewhat,
                x -> number(x.restoreSnapshot(0)));
        ScaleInspection x = Scene.busy();
        CHECK.due("51: an empty slot", false, x.restoreSnapshot(1));
        CHECK.due("49: the history stays", 11, x.undoDepth());
        CHECK.due("48: and can be undone", true, x.undo());
    }

    private static void lastSlot() {
        ScaleInspection x = Text.market(Scene.MARKET);
        x.weigh(0, 1, 2, 0);
        CHECK.due("50: slot 1", true, x.saveSnapshot(1));
        x.weigh(0, 4, 8, 0);
        CHECK.due("50: slot 0", true, x.saveSnapshot(0));
        x.weigh(0, 16, 32, 0);
        CHECK.due("51: slot 1", true, x.restoreSnapshot(1));
        CHECK.due("38: one weighing", 1, x.weighingCount(0));
        CHECK.due("51: slot 0", true, x.restoreSnapshot(0));
        CHECK.due("38: two weighings", 2, x.weighingCount(0));
    }

    // 50: "Saves a snapshot in a slot, in place of an earlier one."
    private static void inPlaceOfAnEarlierOne() {
        for (int slot = 0; slot < 2; slot++) {
            ScaleInspection x = Text.market(Scene.MARKET);
            x.weigh(0, 1, 2, 0);
            x.startVisit(0, 10);
            x.saveSnapshot(1 - slot);
            x.saveSnapshot(slot);
            x.weigh(0, 4, 8, 0);
            x.startVisit(1, 10);
            CHECK.due("50: in place of an earlier one", true, x.saveSnapshot(slot));
            x.undo();
            x.undo();
            CHECK.due("51: the later one", true, x.restoreSnapshot(slot));
            CHECK.due("38: two weighings", 2, x.weighingCount(0));
            CHECK.due("17: two visits", 2, x.visitCount());
            CHECK.due("51: the other slot", true, x.restoreSnapshot(1 - slot));
            CHECK.due("38: one weighing", 1, x.weighingCount(0));
            CHECK.due("17: one visit", 1, x.visitCount());
        }
    }

    private static void savingIsNoChange() {
        ScaleInspection x = Scene.busy();
        CHECK.due("50: slot 1", true, x.saveSnapshot(1));
        CHECK.due("49: eleven", 11, x.undoDepth());
        CHECK.due("48: the change before it is undone", true, x.undo());
        CHECK.due("21: without the test", 0, x.testCount(2));
        CHECK.due("48: and the one before", true, x.undo());
        CHECK.due("17: without the visit", 2, x.visitCount());
        CHECK.due("51: the snapshot stays", true, x.restoreSnapshot(1));
        CHECK.due("21: with the test", 1, x.testCount(2));
    }

    // 51: "Restores the snapshot of a slot, which stays stored."
    private static void snapshotStaysStored() {
        ScaleInspection x = Scene.busy();
        for (int i = 0; i < 5; i++) {
            CHECK.due("51: slot 0", true, x.restoreSnapshot(0));
            CHECK.due("17: two visits", 2, x.visitCount());
            CHECK.due("38: no weighing", 0, x.weighingCount(0));
            CHECK.due("40: all are suspects", 4095, x.heavySuspects(0));
            CHECK.due("29: closed", 1, x.isClosed(1));
            CHECK.due("16: a visit", 2, x.startVisit(0, 40 + i));
            CHECK.due("20: a test", 0, x.record(2, 1, 500 + i));
            CHECK.due("28: closed", 1, x.closeVisit(2));
            CHECK.due("37: a weighing", 2, x.weigh(0, 1 << i, 64 << i, 1));
        }
    }

    // 51: "The undo history is cleared in any case.": also if the restored state is the present one, or an earlier
    // state of the history; a call that answers false changes nothing, as the next sentence says.
    private static void historyIsClearedInAnyCase() {
        ScaleInspection x = Scene.busy();
        x.saveSnapshot(1);
        String before = Watch.seen(x).replace("visits 3 11", "visits 3 0");
        CHECK.due("51: the present state", true, x.restoreSnapshot(1));
        CHECK.due("49: cleared", 0, x.undoDepth());
        CHECK.due("48: cleared", false, x.undo());
        CHECK.due("51: the present state is as it was", before, Watch.seen(x));
        ScaleInspection y = Scene.busy();
        CHECK.due("51: an earlier state", true, y.restoreSnapshot(0));
        CHECK.due("49: cleared", 0, y.undoDepth());
        CHECK.due("48: cleared", false, y.undo());
        CHECK.due("17: two visits", 2, y.visitCount());
        ScaleInspection z = Text.market(Scene.MARKET);
        z.saveSnapshot(0);
        CHECK.due("51: with an empty history", true, z.restoreSnapshot(0));
        CHECK.due("49: empty", 0, z.undoDepth());
    }

    private static void nothingToUndoAfterRestore() {
        ScaleInspection x = weighed(15);
        x.saveSnapshot(0);
        x.weigh(0, 4, 8, 0);
        x.restoreSnapshot(0);
        CHECK.due("48: nothing", false, x.undo());
        CHECK.due("38: fifteen", 15, x.weighingCount(0));
        for (int i = 1; i <= 5; i++) {
            CHECK.due("37: a weighing", 17, x.weigh(0, 4, 8, 0));
            CHECK.due("49: new changes", i, x.undoDepth());
        }
        CHECK.due("37: FULL", -3, x.weigh(0, 4, 8, 0));
        for (int i = 5; i > 0; i--) {
            CHECK.due("48: a new change", true, x.undo());
        }
        CHECK.due("48: no more", false, x.undo());
        CHECK.due("38: fifteen", 15, x.weighingCount(0));
        CHECK.due("39: as restored", 21, x.hypothesisCount(0));
    }

    // "A successful parse removes all visits, clears the undo history and empties both slots."; a refused one does not.
    private static void slotsAfterParse() {
        ScaleInspection x = bothSlots();
        CHECK.due("3: an error", 1, Text.parse(x, "trader"));
        CHECK.due("49: the history stays", 12, x.undoDepth());
        CHECK.due("17: the visits stay", 3, x.visitCount());
        CHECK.due("51: slot 0 stays", true, x.restoreSnapshot(0));
        CHECK.due("51: slot 1 stays", true, x.restoreSnapshot(1));
        ScaleInspection y = bothSlots();
        CHECK.due("3: a success", 0, y.parse(14));
        CHECK.due("49: no history", 0, y.undoDepth());
        CHECK.due("48: no history", false, y.undo());
        CHECK.due("17: no visits", 0, y.visitCount());
        CHECK.due("51: slot 0 is empty", false, y.restoreSnapshot(0));
        CHECK.due("51: slot 1 is empty", false, y.restoreSnapshot(1));
        CHECK.due("50: slot 1", true, y.saveSnapshot(1));
        CHECK.due("51: slot 0 stays empty", false, y.restoreSnapshot(0));
        CHECK.due("51: slot 1", true, y.restoreSnapshot(1));
    }

    // "a snapshot holds all visits and the state of all sets", and neither the buffer nor the position of an error.
    private static void whatASnapshotLeaves() {
        ScaleInspection x = Scene.busy();
        CHECK.due("3: an error", 1, x.parse(6));
        Text.append(x, "mass 7;");
        x.saveSnapshot(1);
        Text.append(x, "mass 8;");
        x.restoreSnapshot(0);
        CHECK.due("4: the position stays", 6, x.errorPosition());
        x.restoreSnapshot(1);
        CHECK.due("3: the buffer stays", 0, x.parse(40));
        CHECK.due("12: both masses", 8, x.massValue(1));
    }

    private static void snapshotOfNothing() {
        ScaleInspection x = new ScaleInspection();
        CHECK.due("50: slot 0 of a new object", true, x.saveSnapshot(0));
        CHECK.due("51: slot 0 of a new object", true, x.restoreSnapshot(0));
        CHECK.due("51: slot 1 is empty", false, x.restoreSnapshot(1));
        CHECK.due("5: no market", 0, x.traderCount());
        CHECK.due("3: a market", 0, Text.parse(x, Scene.MARKET));
        CHECK.due("51: the slot is empty", false, x.restoreSnapshot(0));
        x.saveSnapshot(0);
        x.startVisit(0, 0);
        x.weigh(1, 1, 2, 0);
        CHECK.due("51: no visits", true, x.restoreSnapshot(0));
        CHECK.due("17: no visits", 0, x.visitCount());
        CHECK.due("39: all hypotheses", 6, x.hypothesisCount(1));
    }

    // Thirty visits, the last one of eight tests, and four sets.
    private static void snapshotOfTheMost() {
        ScaleInspection x = Text.market("trader;scale 0 0 10 1000;mass 500;set 3;set 12 maybe;set 2 maybe;set 7;");
        for (int visit = 0; visit < 30; visit++) {
            x.startVisit(0, visit);
            if (visit < 29) {
                x.closeVisit(visit);
            }
        }
        for (int test = 0; test < 8; test++) {
            x.record(29, test % 2, 100 * test);
        }
        x.weigh(2, 1, 2, 0);
        x.weigh(3, 64, 1, 1);
        x.saveSnapshot(1);
        for (int i = 0; i < 11; i++) {
            CHECK.due("48: undo", true, x.undo());
        }
        CHECK.due("17: visits", 29, x.visitCount());
        x.weigh(0, 1, 2, 0);
        CHECK.due("51: slot 1", true, x.restoreSnapshot(1));
        CHECK.due("17: visits", 30, x.visitCount());
        CHECK.due("21: tests", 8, x.testCount(29));
        for (int test = 0; test < 8; test++) {
            CHECK.due("23: test " + test, 100 * test - test % 2 * 500, x.testError(29, test));
            CHECK.due("22: test " + test, test % 2 * 500, x.testLoad(29, test));
        }
        int[] heavy = {7, 4095, 0, 64};
        int[] light = {7, 4095, 0, 1};
        int[] weighings = {0, 0, 1, 1};
        for (int set = 0; set < 4; set++) {
            CHECK.due("40: set " + set, heavy[set], x.heavySuspects(set));
            CHECK.due("41: set " + set, light[set], x.lightSuspects(set));
            CHECK.due("42: set " + set, set % 3 == 0 ? 0 : 1, x.canBeGenuine(set));
            CHECK.due("38: set " + set, weighings[set], x.weighingCount(set));
        }
        CHECK.due("20: a ninth test", -3, x.record(29, 0, 0));
        CHECK.due("16: an open visit", -2, x.startVisit(0, 29));
        CHECK.due("28: it is closed", 4, x.closeVisit(29));
        CHECK.due("16: a thirty-first visit", -3, x.startVisit(0, 29));
    }

    /** For each number of a visit and of a test: other tests on their places go when the snapshot comes back. */
    private static void snapshotOfEveryPlace() {
        for (int last = 0; last < 30; last++) {
            for (int first = 0; first <= 5; first++) {
                ScaleInspection x = Text.market("trader;scale 0 0 10 1000;mass 500;mass 100;");
                for (int visit = 0; visit < last; visit++) {
                    x.closeVisit(x.startVisit(0, 10));
                }
                x.startVisit(0, 10);
                for (int test = 0; test < first; test++) {
                    x.record(last, 2, 100);
                }
                x.record(last, 0, 4);
                x.record(last, 1, 500);
                x.record(last, 1, 501);
                x.saveSnapshot(0);
                x.undo();
                x.undo();
                x.undo();
                x.record(last, 1, 570);
                x.record(last, 3, 670);
                x.record(last, 2, 170);
                String which = "visit " + last + ", test " + first;
                CHECK.due("25: no empty one, " + which, 1, x.verdict(last));
                CHECK.due("51: slot 0", true, x.restoreSnapshot(0));
                CHECK.due("51: the empty one, " + which, 0, x.testLoad(last, first));
                CHECK.due("51: its error, " + which, 4, x.testError(last, first));
                CHECK.due("51: half the capacity, " + which, 500, x.testLoad(last, first + 2));
                CHECK.due("51: its error, " + which, 1, x.testError(last, first + 2));
                CHECK.due("51: their sets, " + which, 0, x.verdict(last));
            }
        }
    }
}
