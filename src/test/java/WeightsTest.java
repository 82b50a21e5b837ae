/** Promises 36 to 47: counterfeit weights. */
public final class WeightsTest {
    private static final Check CHECK = new Check("WeightsTest");
    private static final int[] NO_SET = {-1, 4, Integer.MIN_VALUE, Integer.MAX_VALUE};

    public static void main(String[] args) {
        noSuchSet();
        atFirst();
        weighArguments();
        weighResults();
        weighOrder();
        finding();
        strategyOfTwelve();
        noStrategy();
        bestWeighings();
        fewestWeighings();
        everyStrategyEnds();
        CHECK.finish();
    }

    private static void noSuchSet() {
        ScaleInspection x = Text.market("set 2;set 12;set 5 maybe;set 3;");
        ScaleInspection empty = new ScaleInspection();
        for (int set : NO_SET) {
            allInvalid(x, set);
        }
        allInvalid(empty, 0);
        allInvalid(Text.market("set 2;"), 1);
    }

    private static void allInvalid(ScaleInspection x, int set) {
        CHECK.due("36: set " + set, -1, x.weightCount(set));
        CHECK.due("37: set " + set, -1, x.weigh(set, 1, 2, 0));
        CHECK.due("38: set " + set, -1, x.weighingCount(set));
        CHECK.due("39: set " + set, -1, x.hypothesisCount(set));
        CHECK.due("40: set " + set, -1, x.heavySuspects(set));
        CHECK.due("41: set " + set, -1, x.lightSuspects(set));
        CHECK.due("42: set " + set, -1, x.canBeGenuine(set));
        CHECK.due("43: set " + set, -1, x.finding(set));
        CHECK.due("44: set " + set, -1, x.weighingsNeeded(set));
        CHECK.due("45: set " + set, -1, x.bestLeft(set));
        CHECK.due("46: set " + set, -1, x.bestRight(set));
    }

    private static void set(ScaleInspection x, int set, int count, int heavy, int light, int genuine) {
        CHECK.due("39: hypothesisCount(" + set + ")", count, x.hypothesisCount(set));
        CHECK.due("40: heavySuspects(" + set + ")", heavy, x.heavySuspects(set));
        CHECK.due("41: lightSuspects(" + set + ")", light, x.lightSuspects(set));
        CHECK.due("42: canBeGenuine(" + set + ")", genuine, x.canBeGenuine(set));
    }

    private static void atFirst() {
        ScaleInspection x = Text.market("set 2;set 12;set 5 maybe;set 2 maybe;");
        int[] counts = {2, 12, 5, 2};
        for (int set = 0; set < 4; set++) {
            CHECK.due("36: weightCount(" + set + ")", counts[set], x.weightCount(set));
            CHECK.due("38: weighingCount(" + set + ")", 0, x.weighingCount(set));
            CHECK.due("43: finding(" + set + ")", -2, x.finding(set));
        }
        set(x, 0, 4, 3, 3, 0);
        set(x, 1, 24, 4095, 4095, 0);
        set(x, 2, 11, 31, 31, 1);
        set(x, 3, 5, 3, 3, 1);
    }

    private static void weighArguments() {
        ScaleInspection x = Text.market("set 5;");
        int[][] wrong = {{0, 0}, {1, 1}, {3, 6}, {1, 6}, {7, 8}, {0, 1}, {1, 0}, {32, 1}, {1, 32}, {-1, 1}, {1, -1},
            {-1, -1}, {Integer.MIN_VALUE, 1}, {1, Integer.MIN_VALUE}, {1 << 30, 1}, {3, 33}, {33, 6}};
        for (int[] pans : wrong) {
            CHECK.due("37: pans " + pans[0] + ", " + pans[1], -1, x.weigh(0, pans[0], pans[1], 0));
        }
        for (int result : new int[] {-1, 3, Integer.MIN_VALUE, Integer.MAX_VALUE}) {
            CHECK.due("37: result " + result, -1, x.weigh(0, 1, 2, result));
        }
        CHECK.due("38: nothing weighed", 0, x.weighingCount(0));
        CHECK.due("undoDepth", 0, x.undoDepth());
        CHECK.due("37: the last weight", 6, x.weigh(0, 16, 1, 0));
    }

    private static void weighResults() {
        ScaleInspection x = Text.market("set 6 maybe;set 6 maybe;set 6 maybe;set 6;");
        CHECK.due("37: balance", 9, x.weigh(0, 1, 8, 0));
        set(x, 0, 9, 54, 54, 1);
        CHECK.due("37: left", 4, x.weigh(1, 3, 12, 1));
        set(x, 1, 4, 3, 12, 0);
        CHECK.due("37: right", 4, x.weigh(2, 3, 12, 2));
        set(x, 2, 4, 12, 3, 0);
        CHECK.due("37: left again", 1, x.weigh(1, 17, 34, 1));
        set(x, 1, 1, 1, 0, 0);
        CHECK.due("37: balance after right", 1, x.weigh(2, 6, 24, 0));
        set(x, 2, 1, 0, 1, 0);
        CHECK.due("37: balance without maybe", 4, x.weigh(3, 3, 12, 0));
        set(x, 3, 4, 48, 48, 0);
        CHECK.due("38: set 0", 1, x.weighingCount(0));
        CHECK.due("38: set 1", 2, x.weighingCount(1));
        CHECK.due("38: set 2", 2, x.weighingCount(2));
        CHECK.due("38: set 3", 1, x.weighingCount(3));
    }

    private static void weighOrder() {
        ScaleInspection x = Text.market("set 3;");
        x.weigh(0, 1, 2, 1);
        int depth = x.undoDepth();
        CHECK.due("37: no hypothesis", -2, x.weigh(0, 1, 2, 0));
        CHECK.due("37: no hypothesis", -2, x.weigh(0, 1, 2, 2));
        CHECK.due("37: INVALID first", -1, x.weigh(0, 1, 3, 2));
        set(x, 0, 2, 1, 2, 0);
        CHECK.due("38: one weighing", 1, x.weighingCount(0));
        CHECK.due("undoDepth", depth, x.undoDepth());
        for (int i = 2; i <= 20; i++) {
            CHECK.due("37: weighing " + i, 2, x.weigh(0, 1, 2, 1));
            CHECK.due("38: weighing " + i, i, x.weighingCount(0));
        }
        CHECK.due("37: FULL", -3, x.weigh(0, 1, 2, 1));
        CHECK.due("37: NONE before FULL", -2, x.weigh(0, 1, 2, 2));
        CHECK.due("37: INVALID before FULL", -1, x.weigh(0, 1, 8, 1));
        CHECK.due("38: 20", 20, x.weighingCount(0));
        CHECK.due("44: the limit plays no part", 1, x.weighingsNeeded(0));
        CHECK.due("45: the limit plays no part", 1, x.bestLeft(0));
        CHECK.due("46: the limit plays no part", 4, x.bestRight(0));
        CHECK.due("undo", true, x.undo());
        CHECK.due("37: room again", 2, x.weigh(0, 1, 2, 1));
    }

    private static void finding() {
        ScaleInspection x = Text.market("set 12 maybe;");
        x.weigh(0, 63, 63 << 6, 0);
        CHECK.due("43: genuine", 0, x.finding(0));
        set(x, 0, 1, 0, 0, 1);
        CHECK.due("44: none needed", 0, x.weighingsNeeded(0));
        for (int weight = 0; weight < 12; weight++) {
            int other = (weight + 1) % 12;
            int third = (weight + 2) % 12;
            for (int sign = 1; sign <= 2; sign++) {
                ScaleInspection y = Text.market("set 12;");
                y.weigh(0, 1 << weight, 1 << other, sign);
                CHECK.due("43: two are left", -2, y.finding(0));
                CHECK.due("37: one is left", 1, y.weigh(0, 1 << weight, 1 << third, sign));
                CHECK.due("43: weight " + weight, sign + 2 * weight, y.finding(0));
                CHECK.due("44: none needed", 0, y.weighingsNeeded(0));
                CHECK.due("45: none", -2, y.bestLeft(0));
                CHECK.due("46: none", -2, y.bestRight(0));
            }
        }
    }

    private static void strategyOfTwelve() {
        ScaleInspection x = Text.market("set 12;set 12 maybe;");
        for (int set = 0; set < 2; set++) {
            CHECK.due("44: twelve", 3, x.weighingsNeeded(set));
            CHECK.due("45: twelve", 15, x.bestLeft(set));
            CHECK.due("46: twelve", 240, x.bestRight(set));
        }
        CHECK.due("37: balance", 9, x.weigh(1, 15, 240, 0));
        CHECK.due("44: four and genuine", 2, x.weighingsNeeded(1));
        CHECK.due("37: left", 8, x.weigh(0, 15, 240, 1));
        CHECK.due("44: four heavy and four light", 2, x.weighingsNeeded(0));
        ScaleInspection y = Text.market("set 12;");
        y.weigh(0, 1, 2, 0);
        CHECK.due("44: ten with two genuine", 3, y.weighingsNeeded(0));
        y.weigh(0, 4, 8, 0);
        y.weigh(0, 16, 32, 0);
        y.weigh(0, 64, 128, 0);
        CHECK.due("44: four", 2, y.weighingsNeeded(0));
        y.weigh(0, 256, 512, 0);
        CHECK.due("44: two", 2, y.weighingsNeeded(0));
        y.weigh(0, 1024, 1, 0);
        CHECK.due("44: one, heavier or lighter", 1, y.weighingsNeeded(0));
        CHECK.due("45: the genuine one is lowest", 1, y.bestLeft(0));
        CHECK.due("46: the suspect", 2048, y.bestRight(0));
    }

    private static void noStrategy() {
        ScaleInspection x = Text.market("set 2;set 2 maybe;");
        for (int set = 0; set < 2; set++) {
            CHECK.due("44: two weights", -2, x.weighingsNeeded(set));
            CHECK.due("45: two weights", -2, x.bestLeft(set));
            CHECK.due("46: two weights", -2, x.bestRight(set));
        }
        x.weigh(0, 1, 2, 1);
        CHECK.due("44: no genuine weight", -2, x.weighingsNeeded(0));
        CHECK.due("45: no genuine weight", -2, x.bestLeft(0));
        x.weigh(1, 1, 2, 0);
        CHECK.due("44: found", 0, x.weighingsNeeded(1));
        CHECK.due("45: found", -2, x.bestLeft(1));
    }

    private static void best(ScaleInspection x, int set, int needed, int left, int right) {
        CHECK.due("44: weighingsNeeded(" + set + ")", needed, x.weighingsNeeded(set));
        CHECK.due("45: bestLeft(" + set + ")", left, x.bestLeft(set));
        CHECK.due("46: bestRight(" + set + ")", right, x.bestRight(set));
    }

    private static void bestWeighings() {
        ScaleInspection x = Text.market("set 3;set 4;set 7;set 9;");
        best(x, 0, 2, 1, 2);
        best(x, 1, 3, 1, 2);
        // Two heavy ones and a light one, 0, 1 and 3: 0 against 1 tells all with the fewest weights.
        x.weigh(2, 7, 56, 1);
        CHECK.due("37: three and three", 6, x.hypothesisCount(2));
        CHECK.due("37: 0 and 1 against 2 and 6", 2, x.weigh(2, 3, 68, 1));
        best(x, 2, 1, 1, 2);
        // Heavy 3 and light 0: a genuine one comes in, as low as possible.
        x.weigh(3, 8, 1, 1);
        best(x, 3, 1, 1, 2);
        CHECK.due("37: 0 against 1 balances", 1, x.weigh(3, 1, 2, 0));
        CHECK.due("43: heavy 3", 7, x.finding(3));
        // The question before was about another set.
        CHECK.due("37: balance", 4, x.weigh(1, 1, 2, 0));
        CHECK.due("46: set 1", 4, x.bestRight(1));
        CHECK.due("46: set 0", 2, x.bestRight(0));
        CHECK.due("45: set 1", 1, x.bestLeft(1));
        allAgainstTrial();
    }

    /** Sets of up to six weights, after any first weighing, against a trial of all pans. */
    private static void allAgainstTrial() {
        for (int count = 2; count <= 6; count++) {
            for (int maybe = 0; maybe <= 1; maybe++) {
                ScaleInspection x = Text.market("set " + count + (maybe == 1 ? " maybe;" : ";"));
                trial(x, count);
                for (int left = 1; left < 1 << count; left++) {
                    for (int right = 1; right < 1 << count; right++) {
                        for (int result = 0; result < 3; result++) {
                            // Calls beyond the 512th are free, so a new object comes in time.
                            if (x.weigh(0, left, right, result) > 0) {
                                trial(x, count);
                                x = Text.market("set " + count + (maybe == 1 ? " maybe;" : ";"));
                            }
                        }
                    }
                    x = Text.market("set " + count + (maybe == 1 ? " maybe;" : ";"));
                }
            }
        }
    }

    private static void trial(ScaleInspection x, int count) {
        int heavy = x.heavySuspects(0);
        int light = x.lightSuspects(0);
        int genuine = x.canBeGenuine(0);
        int needed = Weighings.needed(count, heavy, light, genuine);
        int[] pans = Weighings.best(count, heavy, light, genuine);
        String which = count + " weights, heavy " + heavy + ", light " + light + ", genuine " + genuine;
        CHECK.due("44: " + which, needed == Weighings.NEVER ? -2 : needed, x.weighingsNeeded(0));
        CHECK.due("45: " + which, pans == null ? -2 : pans[0], x.bestLeft(0));
        CHECK.due("46: " + which, pans == null ? -2 : pans[1], x.bestRight(0));
    }

    private static void fewestWeighings() {
        ScaleInspection x = new ScaleInspection();
        for (int count : new int[] {-1, 0, 1, 13, Integer.MIN_VALUE, Integer.MAX_VALUE}) {
            CHECK.due("47: count " + count, -1, x.fewestWeighings(count, false));
            CHECK.due("47: count " + count, -1, x.fewestWeighings(count, true));
        }
        for (int count = 2; count <= 12; count++) {
            int due = count == 2 ? -2 : count == 3 ? 2 : 3;
            CHECK.due("47: " + count, due, x.fewestWeighings(count, false));
            CHECK.due("47: " + count + " maybe", due, x.fewestWeighings(count, true));
        }
        // It asks nothing of the sets in hand, and leaves them alone.
        ScaleInspection y = Text.market("set 4;");
        y.weigh(0, 1, 2, 0);
        CHECK.due("47: beside a set", 3, y.fewestWeighings(4, false));
        best(y, 0, 2, 1, 4);
    }

    /** Follows the best weighings for every false weight: each ends in time with the right finding. */
    private static void everyStrategyEnds() {
        for (int count = 3; count <= 12; count++) {
            for (int truth = 0; truth <= 2 * count; truth++) {
                ScaleInspection x = Text.market("set " + count + " maybe;");
                int needed = x.weighingsNeeded(0);
                for (int i = 0; i < needed && x.finding(0) == -2; i++) {
                    int left = x.bestLeft(0);
                    int right = x.bestRight(0);
                    x.weigh(0, left, right, outcome(truth, left, right));
                }
                CHECK.due("45 and 46: the finding among " + count, truth, x.finding(0));
            }
        }
    }

    private static int outcome(int truth, int left, int right) {
        int weight = (truth - 1) / 2;
        if (truth == 0 || ((left | right) >> weight & 1) == 0) {
            return 0;
        }
        boolean heavy = truth % 2 == 1;
        return heavy == ((left >> weight & 1) == 1) ? 1 : 2;
    }
}
