import java.util.function.Supplier;
import java.util.function.ToLongFunction;

/** The edges of promises 36 to 47, each sentence of the document that names one; the sentence stands above its test. */
public final class WeightsEdgesTest {
    private static final Check CHECK = new Check("WeightsEdgesTest");
    private static final int MIN = Integer.MIN_VALUE;
    private static final int MAX = Integer.MAX_VALUE;

    public static void main(String[] args) {
        noSuchSet();
        hypothesesAtFirst();
        noSuchWeight();
        lastWeight();
        commonWeight();
        numbersOnThePans();
        resultOutOfRange();
        noHypothesisLeft();
        invalidBeforeNone();
        noneBeforeFull();
        twentiethWeighing();
        lastHypothesis();
        genuineHypothesis();
        findings();
        noneNeeded();
        noNumberExists();
        oneMoreNeeded();
        limitPlaysNoPart();
        bestOfEqualOnes();
        countOutOfRange();
        fewestOfEachCount();
        setsOfAFormerMarket();
        CHECK.finish();
    }

    private static void unchanged(String call, long want, Supplier<ScaleInspection> maker,
            ToLongFunction<ScaleInspection> run) {
        Watch.unchanged(CHECK, call, want, maker, run);
    }

    /** What is known of a set. */
    private static void known(String which, ScaleInspection x, int set, int heavy, int light, int genuine) {
        int count = Integer.bitCount(heavy) + Integer.bitCount(light) + genuine;
        CHECK.due("39: " + which, count, x.hypothesisCount(set));
        CHECK.due("40: " + which, heavy, x.heavySuspects(set));
        CHECK.due("41: " + which, light, x.lightSuspects(set));
        CHECK.due("42: " + which, genuine, x.canBeGenuine(set));
    }

    private static void best(String which, ScaleInspection x, int set, int needed, int left, int right) {
        CHECK.due("44: " + which, needed, x.weighingsNeeded(set));
        CHECK.due("45: " + which, left, x.bestLeft(set));
        CHECK.due("46: " + which, right, x.bestRight(set));
    }

    // 36 and 38 to 46: "INVALID if there is no such set."
    private static void noSuchSet() {
        for (int set : new int[] {-1, 2, 3, 4, MIN, MAX}) {
            String of = "(" + set + ") of 2";
            unchanged("36: weightCount" + of, -1, Scene::busy, x -> x.weightCount(set));
            unchanged("37: weigh" + of, -1, Scene::busy, x -> x.weigh(set, 1, 2, 1));
            unchanged("38: weighingCount" + of, -1, Scene::busy, x -> x.weighingCount(set));
            unchanged("39: hypothesisCount" + of, -1, Scene::busy, x -> x.hypothesisCount(set));
            unchanged("40: heavySuspects" + of, -1, Scene::busy, x -> x.heavySuspects(set));
            unchanged("41: lightSuspects" + of, -1, Scene::busy, x -> x.lightSuspects(set));
            unchanged("42: canBeGenuine" + of, -1, Scene::busy, x -> x.canBeGenuine(set));
            unchanged("43: finding" + of, -1, Scene::busy, x -> x.finding(set));
            unchanged("44: weighingsNeeded" + of, -1, Scene::busy, x -> x.weighingsNeeded(set));
            unchanged("45: bestLeft" + of, -1, Scene::busy, x -> x.bestLeft(set));
            unchanged("46: bestRight" + of, -1, Scene::busy, x -> x.bestRight(set));
        }
        ScaleInspection x = Text.market("set 2;set 3;set 11;set 12;");
        int[] counts = {2, 3, 11, 12};
        for (int set = 0; set < 4; set++) {
            CHECK.due("36: weightCount(" + set + ")", counts[set], x.weightCount(set));
        }
        CHECK.due("36: weightCount(4)", -1, x.weightCount(4));
        CHECK.due("37: set 3", 4, x.weigh(3, 3, 12, 1));
        CHECK.due("37: set 4", -1, x.weigh(4, 3, 12, 1));
        CHECK.due("43: no set at all", -1, new ScaleInspection().finding(0));
        CHECK.due("44: no set at all", -1, new ScaleInspection().weighingsNeeded(0));
        CHECK.due("45: no set at all", -1, new ScaleInspection().bestLeft(0));
        CHECK.due("46: no set at all", -1, new ScaleInspection().bestRight(0));
    }

    // "At first all hypotheses are possible: 2 * count of them, plus one with maybe."
    private static void hypothesesAtFirst() {
        for (int count = 2; count <= 12; count++) {
            ScaleInspection x = Text.market("set " + count + ";set " + count + " maybe;");
            int all = (1 << count) - 1;
            for (int set = 0; set < 2; set++) {
                known(count + " weights", x, set, all, all, set);
                CHECK.due("38: no weighing", 0, x.weighingCount(set));
                CHECK.due("43: no finding", -2, x.finding(set));
            }
            CHECK.due("39: without maybe", 2 * count, x.hypothesisCount(0));
            CHECK.due("39: with maybe", 2 * count + 1, x.hypothesisCount(1));
        }
    }

    // 37: "INVALID if there is no such set or weight ..": bit k stands for number k.
    private static void noSuchWeight() {
        int[] wrong = {8, 16, 1 << 12, 1 << 30, MIN};
        for (int pan : wrong) {
            unchanged("37: left pan " + pan + " of 3 weights", -1, Scene::busy, x -> x.weigh(1, pan, 2, 1));
            unchanged("37: right pan " + pan + " of 3 weights", -1, Scene::busy, x -> x.weigh(1, 1, pan, 1));
            // Beside a weight that is there, and with two weights on each pan.
            unchanged("37: left pan " + (pan | 1), -1, Scene::busy, x -> x.weigh(1, pan | 1, 6, 1));
            unchanged("37: right pan " + (pan | 2), -1, Scene::busy, x -> x.weigh(1, 5, pan | 2, 1));
        }
        unchanged("37: both pans", -1, Scene::busy, x -> x.weigh(1, 8, 16, 0));
        unchanged("37: all bits", -1, Scene::busy, x -> x.weigh(1, -1, -1, 0));
        unchanged("37: all bits and the rest", -1, Scene::busy, x -> x.weigh(1, -2, 1, 0));
        unchanged("37: weight 12 of 12", -1, Scene::busy, x -> x.weigh(0, 1, 1 << 12, 1));
    }

    private static void lastWeight() {
        for (int count = 2; count <= 12; count++) {
            ScaleInspection x = Text.market("set " + count + ";");
            int last = 1 << (count - 1);
            CHECK.due("37: weight " + count + " of " + count, -1, x.weigh(0, 1, last << 1, 1));
            CHECK.due("37: weight " + count + " of " + count, -1, x.weigh(0, last << 1, 1, 1));
            CHECK.due("38: no weighing", 0, x.weighingCount(0));
            CHECK.due("37: the last weight of " + count, 2, x.weigh(0, 1, last, 2));
            known("the last one heavy, or the first one light", x, 0, last, 1, 0);
        }
        ScaleInspection x = Text.market("set 12 maybe;set 12;");
        CHECK.due("37: six against six", 12, x.weigh(1, 63, 63 << 6, 1));
        CHECK.due("37: six against six", 1, x.weigh(0, 63 << 6, 63, 0));
    }

    // 37: ".. the pans have a weight in common ..": with as many weights on both pans.
    private static void commonWeight() {
        int[][] pans = {{1, 1}, {4, 4}, {3, 3}, {3, 6}, {7, 7}, {5, 3}};
        for (int[] pair : pans) {
            unchanged("37: " + pair[0] + " and " + pair[1], -1, Scene::busy, x -> x.weigh(1, pair[0], pair[1], 0));
            unchanged("37: " + pair[0] + " and " + pair[1], -1, Scene::busy, x -> x.weigh(0, pair[0], pair[1], 1));
        }
        CHECK.due("37: none in common", 2, Scene.busy().weigh(1, 1, 2, 1));
        CHECK.due("37: none in common", 3, Scene.busy().weigh(0, 3, 12, 1));
    }

    // 37: ".. they have different numbers of weights or none ..": "the same number of weights, at least one"
    private static void numbersOnThePans() {
        int[][] pans = {{0, 0}, {0, 1}, {1, 0}, {1, 6}, {6, 1}, {3, 4}, {4, 3}, {0, 7}, {7, 0}};
        for (int[] pair : pans) {
            for (int result = 0; result < 3; result++) {
                int told = result;
                unchanged("37: " + pair[0] + " and " + pair[1] + ", " + told, -1, Scene::busy,
                        x -> x.weigh(1, pair[0], pair[1], told));
            }
        }
        ScaleInspection x = Text.market("set 12;set 4;");
        CHECK.due("37: five against six", -1, x.weigh(0, 31, 63 << 6, 1));
        CHECK.due("37: six against five", -1, x.weigh(0, 63, 31 << 6, 1));
        CHECK.due("37: two against two", 4, x.weigh(1, 3, 12, 2));
        CHECK.due("37: one against one", 2, x.weigh(1, 1, 2, 0));
    }

    // 37: "result: 0 to 2", "INVALID if .. result is out of range"
    private static void resultOutOfRange() {
        for (int result : new int[] {-1, 3, 4, MIN, MAX}) {
            unchanged("37: result " + result, -1, Scene::busy, x -> x.weigh(1, 1, 2, result));
            unchanged("37: result " + result + " of set 0", -1, Scene::busy, x -> x.weigh(0, 1, 8, result));
        }
        for (int result = 0; result < 3; result++) {
            ScaleInspection x = Text.market("set 4 maybe;");
            CHECK.due("37: result " + result, result == 0 ? 5 : 2, x.weigh(0, 1, 2, result));
        }
    }

    // 37: "NONE, with nothing changed, if no hypothesis would be left (checked second)"
    private static void noHypothesisLeft() {
        unchanged("37: a balance of both suspects", -2, Scene::busy, x -> x.weigh(1, 1, 2, 0));
        unchanged("37: the other way", -2, Scene::busy, x -> x.weigh(1, 1, 2, 2));
        unchanged("37: the other way", -2, Scene::busy, x -> x.weigh(1, 2, 1, 1));
        unchanged("37: the heavy one is lighter", -2, Scene::busy, x -> x.weigh(1, 1, 4, 2));
        unchanged("37: the light one is heavier", -2, Scene::busy, x -> x.weigh(1, 2, 4, 1));
        unchanged("37: six suspects against genuine ones", -2, Scene::busy, x -> x.weigh(0, 63, 63 << 6, 0));
        unchanged("37: genuine ones alone", -2, Scene::busy, x -> x.weigh(0, 64, 128, 1));
        unchanged("37: genuine ones alone", -2, Scene::busy, x -> x.weigh(0, 64, 128, 2));
        CHECK.due("37: one is left", 1, Scene.busy().weigh(1, 1, 4, 1));
        CHECK.due("37: one is left", 1, Scene.busy().weigh(1, 2, 4, 2));
        CHECK.due("37: six are left", 6, Scene.busy().weigh(0, 64, 128, 0));
        // Without maybe all weights on the pans cannot balance, with maybe they can.
        ScaleInspection x = Text.market("set 2;set 2 maybe;set 12;set 12 maybe;");
        CHECK.due("37: two weights balance", -2, x.weigh(0, 1, 2, 0));
        known("two weights", x, 0, 3, 3, 0);
        CHECK.due("38: no weighing", 0, x.weighingCount(0));
        CHECK.due("37: two weights balance, with maybe", 1, x.weigh(1, 1, 2, 0));
        CHECK.due("37: twelve weights balance", -2, x.weigh(2, 63, 63 << 6, 0));
        CHECK.due("37: twelve weights balance, with maybe", 1, x.weigh(3, 63, 63 << 6, 0));
        CHECK.due("49: two changes", 2, x.undoDepth());
    }

    // 37: "INVALID .. (checked first); NONE .. (checked second)"
    private static void invalidBeforeNone() {
        // Each result but 1 would leave no hypothesis of set 1; set 0 balances on no pans with its suspects.
        int[][] calls = {{1, 1, 10, 2}, {1, 9, 2, 2}, {1, 1, 1, 0}, {1, 3, 3, 0}, {1, 1, 6, 2}, {1, 5, 2, 2},
            {1, 0, 0, 2}, {1, 0, 2, 2}, {1, 1, 0, 2}, {1, 1, 2, 3}, {1, 1, 2, -1}, {1, 2, 1, 3}, {1, 8, 16, 2},
            {0, 64, 64, 1}, {0, 192, 256, 2}, {0, 64, 1 << 12, 1}, {0, 64, 128, 3}, {2, 1, 2, 0}, {-1, 1, 2, 2}};
        for (int[] call : calls) {
            unchanged("37: weigh(" + call[0] + ", " + call[1] + ", " + call[2] + ", " + call[3] + ")", -1, Scene::busy,
                    x -> x.weigh(call[0], call[1], call[2], call[3]));
        }
    }

    // 37: "NONE .. if no hypothesis would be left (checked second); FULL if the set has 20 weighings."
    private static void noneBeforeFull() {
        unchanged("37: the same again", -3, Scene::twentyWeighings, x -> x.weigh(1, 1, 2, 1));
        unchanged("37: another one", -3, Scene::twentyWeighings, x -> x.weigh(1, 1, 4, 0));
        unchanged("37: no hypothesis", -2, Scene::twentyWeighings, x -> x.weigh(1, 1, 2, 0));
        unchanged("37: no hypothesis", -2, Scene::twentyWeighings, x -> x.weigh(1, 1, 2, 2));
        unchanged("37: a weight in common", -1, Scene::twentyWeighings, x -> x.weigh(1, 1, 1, 1));
        unchanged("37: no such weight", -1, Scene::twentyWeighings, x -> x.weigh(1, 1, 8, 1));
        unchanged("37: different numbers", -1, Scene::twentyWeighings, x -> x.weigh(1, 1, 6, 1));
        unchanged("37: none", -1, Scene::twentyWeighings, x -> x.weigh(1, 0, 0, 1));
        unchanged("37: no such result", -1, Scene::twentyWeighings, x -> x.weigh(1, 1, 2, 3));
        CHECK.due("37: the other set has room", 10 * 2 + 1, Scene.twentyWeighings().weigh(0, 1, 2, 0));
    }

    // 38: "Returns 0 to 20"
    private static void twentiethWeighing() {
        ScaleInspection x = Text.market("set 12;set 12 maybe;");
        for (int set = 0; set < 2; set++) {
            for (int i = 0; i < 20; i++) {
                CHECK.due("38: before weighing " + i, i, x.weighingCount(set));
                CHECK.due("37: weighing " + i, 20 + set, x.weigh(set, 1, 2, 0));
            }
            CHECK.due("38: twenty", 20, x.weighingCount(set));
            CHECK.due("37: the next", -3, x.weigh(set, 1, 2, 0));
            CHECK.due("37: another", -3, x.weigh(set, 4, 8, 0));
            CHECK.due("38: still twenty", 20, x.weighingCount(set));
            known("nothing is changed", x, set, 4092, 4092, set);
        }
        x.undo();
        CHECK.due("38: nineteen", 19, x.weighingCount(1));
        CHECK.due("38: twenty", 20, x.weighingCount(0));
        CHECK.due("37: the twentieth again", 17, x.weigh(1, 4, 8, 0));
        CHECK.due("37: and no more", -3, x.weigh(1, 4, 8, 0));
    }

    // 39: "Returns the number, 1 or more"; 43: "Returns the only hypothesis that is left", "NONE if more than one
    // hypothesis is left"
    private static void lastHypothesis() {
        ScaleInspection x = Scene.busy();
        known("two are left", x, 1, 1, 2, 0);
        CHECK.due("43: two are left", -2, x.finding(1));
        CHECK.due("37: one is left", 1, x.weigh(1, 2, 4, 2));
        known("one is left", x, 1, 0, 2, 0);
        CHECK.due("43: weight 1 is lighter", 4, x.finding(1));
        CHECK.due("37: the same again", 1, x.weigh(1, 2, 4, 2));
        CHECK.due("37: it contradicts", -2, x.weigh(1, 2, 4, 0));
        CHECK.due("37: it tells nothing", 1, x.weigh(1, 1, 4, 0));
        CHECK.due("43: weight 1 is lighter", 4, x.finding(1));
    }

    // 42: "Returns 1 or 0"; 43: "Returns 0 if all weights are genuine"
    private static void genuineHypothesis() {
        ScaleInspection x = Text.market("set 3 maybe;set 3;set 3 maybe;");
        CHECK.due("42: at first", 1, x.canBeGenuine(0));
        CHECK.due("42: without maybe", 0, x.canBeGenuine(1));
        x.weigh(0, 1, 2, 0);
        known("after a balance", x, 0, 4, 4, 1);
        CHECK.due("43: three are left", -2, x.finding(0));
        x.weigh(1, 1, 2, 0);
        known("after a balance, without maybe", x, 1, 4, 4, 0);
        CHECK.due("43: two are left", -2, x.finding(1));
        x.weigh(2, 1, 2, 2);
        known("after a result", x, 2, 2, 1, 0);
        CHECK.due("37: the last weight balances too", 1, x.weigh(0, 1, 4, 0));
        known("all are genuine", x, 0, 0, 0, 1);
        CHECK.due("43: all are genuine", 0, x.finding(0));
        best("all are genuine", x, 0, 0, -2, -2);
        CHECK.due("37: without maybe none is left", -2, x.weigh(1, 1, 4, 0));
        CHECK.due("37: another balance", 1, x.weigh(0, 2, 4, 0));
        CHECK.due("37: no result more", -2, x.weigh(0, 2, 4, 1));
    }

    // 43: "1 + 2 * w if weight w is heavier; 2 + 2 * w if weight w is lighter"
    private static void findings() {
        for (int weight = 0; weight < 12; weight++) {
            for (int sign = 1; sign <= 2; sign++) {
                ScaleInspection x = Text.market("set 12 maybe;");
                int one = 1 << weight;
                CHECK.due("37: two are left", 2, x.weigh(0, one, 1 << (weight + 5) % 12, sign));
                CHECK.due("43: two are left", -2, x.finding(0));
                CHECK.due("37: one is left", 1, x.weigh(0, 1 << (weight + 7) % 12, one, 3 - sign));
                CHECK.due("43: weight " + weight + (sign == 1 ? " heavier" : " lighter"), sign + 2 * weight,
                        x.finding(0));
                known("one is left", x, 0, sign == 1 ? one : 0, sign == 2 ? one : 0, 0);
            }
        }
    }

    // "The number of weighings needed .. is 0 if it has at most one."; 45 and 46: "NONE if at most one hypothesis is
    // left"
    private static void noneNeeded() {
        ScaleInspection x = Scene.busy();
        best("two hypotheses", x, 1, 1, 1, 4);
        x.weigh(1, 1, 4, 1);
        best("one hypothesis", x, 1, 0, -2, -2);
        x.undo();
        best("two hypotheses again", x, 1, 1, 1, 4);
        x.weigh(1, 1, 4, 0);
        best("the other hypothesis", x, 1, 0, -2, -2);
        ScaleInspection y = Text.market("set 2 maybe;");
        y.weigh(0, 1, 2, 0);
        best("the genuine hypothesis of two weights", y, 0, 0, -2, -2);
    }

    // "If no strategy leads to at most one hypothesis in every case, the number does not exist."; 44: "NONE if it does
    // not exist"; 45 and 46: "NONE if .. the number of weighings needed does not exist"
    private static void noNumberExists() {
        ScaleInspection x = Text.market("set 2;set 2 maybe;set 3;set 3 maybe;");
        best("two weights", x, 0, -2, -2, -2);
        best("two weights, with maybe", x, 1, -2, -2, -2);
        best("three weights", x, 2, 2, 1, 2);
        best("three weights, with maybe", x, 3, 2, 1, 2);
        for (int set = 0; set < 2; set++) {
            CHECK.due("37: one is heavier", 2, x.weigh(set, 1, 2, 1));
            best("two weights, one heavy or one light", x, set, -2, -2, -2);
            CHECK.due("43: two weights, one heavy or one light", -2, x.finding(set));
        }
        for (int set = 2; set < 4; set++) {
            CHECK.due("37: one is heavier", 2, x.weigh(set, 1, 2, 1));
            best("a genuine third weight", x, set, 1, 1, 4);
        }
    }

    // ".. Otherwise it is 1 plus the minimum ..": the hypotheses at which one weighing more is needed.
    private static void oneMoreNeeded() {
        ScaleInspection x = Text.market("set 12;set 12;set 12;set 12 maybe;");
        x.weigh(0, 3, 12, 1);
        known("two heavy and two light", x, 0, 3, 12, 0);
        CHECK.due("44: four suspects", 2, x.weighingsNeeded(0));
        x.weigh(0, 1, 2, 1);
        best("one suspect", x, 0, 0, -2, -2);
        x.undo();
        x.weigh(0, 1, 4, 0);
        known("one heavy and one light", x, 0, 2, 8, 0);
        CHECK.due("44: two suspects", 1, x.weighingsNeeded(0));
        x.weigh(1, 15, 240, 1);
        CHECK.due("44: eight suspects", 2, x.weighingsNeeded(1));
        x.weigh(2, 31, 31 << 5, 1);
        CHECK.due("44: ten suspects", 3, x.weighingsNeeded(2));
        x.weigh(2, 1, 1 << 5, 0);
        CHECK.due("44: eight suspects", 2, x.weighingsNeeded(2));
        x.weigh(2, 2, 1 << 6, 0);
        x.weigh(2, 4, 1 << 7, 0);
        CHECK.due("44: four suspects", 2, x.weighingsNeeded(2));
        x.undo();
        x.weigh(2, 12, (1 << 7) + 1, 1);
        known("two heavy and one light", x, 2, 12, 1 << 7, 0);
        CHECK.due("44: three suspects", 1, x.weighingsNeeded(2));
        // Weights that can be heavier or lighter, or all genuine: five such hypotheses, then three.
        x.weigh(3, 31, 31 << 5, 0);
        CHECK.due("44: two weights and the genuine hypothesis", 2, x.weighingsNeeded(3));
        x.weigh(3, 1 << 10, 1, 0);
        best("one weight and the genuine hypothesis", x, 3, 1, 1, 1 << 11);
    }

    // 44: "The limit of 20 recorded weighings plays no part."
    private static void limitPlaysNoPart() {
        best("twenty weighings", Scene.twentyWeighings(), 1, 1, 1, 4);
        ScaleInspection x = Text.market("set 12;");
        for (int i = 0; i < 20; i++) {
            x.weigh(0, 1, 2, 0);
            CHECK.due("44: ten suspects after weighing " + i, 3, x.weighingsNeeded(0));
        }
        CHECK.due("37: FULL", -3, x.weigh(0, 4, 8, 0));
        CHECK.due("44: ten suspects", 3, x.weighingsNeeded(0));
        CHECK.due("45: a best weighing", true, x.bestLeft(0) > 0);
        CHECK.due("46: a best weighing", true, x.bestRight(0) > 0);
    }

    // "the one with the fewest weights on the pans; among several, the one with the lowest bit set of the left pan;
    // then the one with the lowest bit set of the right pan"
    private static void bestOfEqualOnes() {
        ScaleInspection x = Text.market("set 8;set 9;set 6;set 6;");
        // One heavy and one light: either can be weighed against a genuine one, or against the other place of it.
        x.weigh(0, 32, 64, 1);
        best("heavy 5 or light 6: 0 against 5", x, 0, 1, 1, 32);
        x.weigh(1, 1, 2, 1);
        best("heavy 0 or light 1: 0 against 2", x, 1, 1, 1, 4);
        // Three heavy ones: any two of them tell all; the lowest two are best.
        x.weigh(2, 7, 56, 1);
        x.weigh(2, 8, 16, 0);
        x.weigh(2, 32, 8, 0);
        known("three heavy ones", x, 2, 7, 0, 0);
        best("three heavy ones", x, 2, 1, 1, 2);
        // Three light ones.
        x.weigh(3, 7, 56, 2);
        x.weigh(3, 8, 16, 0);
        x.weigh(3, 32, 8, 0);
        known("three light ones", x, 3, 0, 7, 0);
        best("three light ones", x, 3, 1, 1, 2);
        everyPair();
        everyDepth();
        everySuspectOnAPan();
        everyNumberOfSuspects();
    }

    /** Each pair of one heavy and one light suspect among five weights, against a trial of all pans. */
    private static void everyPair() {
        for (int heavy = 0; heavy < 5; heavy++) {
            for (int light = 0; light < 5; light++) {
                if (heavy != light) {
                    ScaleInspection x = Text.market("set 5;");
                    x.weigh(0, 1 << heavy, 1 << light, 1);
                    int[] pans = Weighings.best(5, 1 << heavy, 1 << light, 0);
                    best("heavy " + heavy + ", light " + light, x, 0, 1, pans[0], pans[1]);
                }
            }
        }
    }

    /** The best weighings of up to eight weights, one after the other with each result, against a trial of all pans. */
    private static void everyDepth() {
        for (int count = 3; count <= 8; count++) {
            for (int results = 0; results < 27; results++) {
                ScaleInspection x = Text.market("set " + count + " maybe;");
                for (int step = results, i = 0; i < 3; i++, step /= 3) {
                    trial(x, count);
                    if (x.finding(0) == -2) {
                        x.weigh(0, x.bestLeft(0), x.bestRight(0), step % 3);
                    }
                }
            }
        }
    }

    /** What the set answers, against a trial of all pans. */
    private static void trial(ScaleInspection x, int count) {
        int heavy = x.heavySuspects(0);
        int light = x.lightSuspects(0);
        int genuine = x.canBeGenuine(0);
        int needed = Weighings.needed(count, heavy, light, genuine);
        int[] pans = Weighings.best(count, heavy, light, genuine);
        best(count + " weights, heavy " + heavy + ", light " + light + ", genuine " + genuine, x, 0,
                needed == Weighings.NEVER ? -2 : needed, pans == null ? -2 : pans[0], pans == null ? -2 : pans[1]);
    }

    /** After half of the weights against the other half no weight is known as genuine. */
    private static void everySuspectOnAPan() {
        for (int count = 2; count <= 12; count += 2) {
            for (int result = 1; result <= 2; result++) {
                int half = (1 << count / 2) - 1;
                ScaleInspection x = Text.market("set " + count + ";");
                CHECK.due("37: " + count + " suspects", count, x.weigh(0, half, half << count / 2, result));
                trial(x, count);
            }
        }
    }

    /** All numbers of heavy and of light suspects that few weighings lead to, at the low and at the high places. */
    private static void everyNumberOfSuspects() {
        for (int count = 2; count <= 12; count++) {
            for (int balanced = 0; 2 * balanced <= count; balanced++) {
                for (int high = 0; high < 2; high++) {
                    int cleared = (1 << 2 * balanced) - 1;
                    int places = high == 1 ? cleared << count - 2 * balanced : cleared;
                    suspectsAmong(count, places, balanced);
                }
            }
        }
    }

    /** Clears these places by a balance, then leaves each number of heavy and of light ones among the others. */
    private static void suspectsAmong(int count, int cleared, int balanced) {
        int others = (1 << count) - 1 & ~cleared;
        int suspects = Integer.bitCount(others);
        for (int heavy = 0; heavy <= suspects; heavy++) {
            int light = Math.min(suspects - heavy, heavy + 2 * balanced);
            for (; light >= 0 && heavy <= light + 2 * balanced; light--) {
                ScaleInspection x = Text.market("set " + count + " maybe;");
                int half = lowest(cleared, balanced);
                if (balanced > 0) {
                    x.weigh(0, half, cleared & ~half, 0);
                }
                if (heavy + light > 0) {
                    int left = lowest(others, heavy);
                    int right = lowest(others & ~left, light);
                    left |= lowest(cleared, Math.max(0, light - heavy));
                    right |= lowest(cleared, Math.max(0, heavy - light));
                    CHECK.due("37: " + heavy + " and " + light, heavy + light, x.weigh(0, left, right, 1));
                }
                trial(x, count);
            }
        }
    }

    private static int lowest(int set, int size) {
        int rest = set;
        for (int i = 0; i < size; i++) {
            rest &= rest - 1;
        }
        return set & ~rest;
    }

    // 47: "count: number of weights, 2 to 12", "INVALID if count is out of range."
    private static void countOutOfRange() {
        for (int count : new int[] {-1, 0, 1, 13, 14, MIN, MAX}) {
            unchanged("47: count " + count, -1, Scene::busy, x -> x.fewestWeighings(count, false));
            unchanged("47: count " + count + " maybe", -1, Scene::busy, x -> x.fewestWeighings(count, true));
        }
        unchanged("47: count 2", -2, Scene::busy, x -> x.fewestWeighings(2, false));
        unchanged("47: count 12", 3, Scene::busy, x -> x.fewestWeighings(12, false));
    }

    // 47: "NONE if it does not exist": for each count as a set of it answers at the beginning.
    private static void fewestOfEachCount() {
        ScaleInspection x = new ScaleInspection();
        for (int count = 12; count >= 2; count--) {
            ScaleInspection y = Text.market("set " + count + ";set " + count + " maybe;");
            int due = count == 2 ? -2 : count == 3 ? 2 : 3;
            CHECK.due("47: " + count, due, x.fewestWeighings(count, false));
            CHECK.due("47: " + count + " maybe", due, x.fewestWeighings(count, true));
            CHECK.due("44: " + count, due, y.weighingsNeeded(0));
            CHECK.due("44: " + count + " maybe", due, y.weighingsNeeded(1));
            CHECK.due("47: beside sets", due, y.fewestWeighings(count, true));
        }
    }

    // A new market has new sets, whatever was weighed and asked before.
    private static void setsOfAFormerMarket() {
        ScaleInspection x = Text.market("set 3;set 5 maybe;");
        x.weigh(0, 1, 2, 1);
        x.weigh(1, 3, 12, 2);
        best("three weights", x, 0, 1, 1, 4);
        Text.parse(x, "set 5;set 3 maybe;");
        known("five weights", x, 0, 31, 31, 0);
        known("three weights", x, 1, 7, 7, 1);
        CHECK.due("38: no weighing", 0, x.weighingCount(0));
        CHECK.due("38: no weighing", 0, x.weighingCount(1));
        CHECK.due("44: five weights", 3, x.weighingsNeeded(0));
        best("three weights", x, 1, 2, 1, 2);
        Text.parse(x, "set 2;");
        best("two weights", x, 0, -2, -2, -2);
        CHECK.due("36: no second set", -1, x.weightCount(1));
        CHECK.due("37: no second set", -1, x.weigh(1, 1, 2, 1));
    }
}
