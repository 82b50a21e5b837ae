/** The edges of promises 13 to 15, each sentence of the document that names one; the sentence stands above its test. */
public final class LoadsEdgesTest {
    private static final Check CHECK = new Check("LoadsEdgesTest");
    private static final int MIN = Integer.MIN_VALUE;
    private static final int MAX = Integer.MAX_VALUE;
    private static final String TEN_HEAVIEST = "mass 999999 plus 99;".repeat(10);
    // 10 of the value 1000098.
    private static final int HEAVIEST_SUM = 10000980;

    public static void main(String[] args) {
        negative();
        nothing();
        withoutMasses();
        smallestSet();
        tiesOfSets();
        noSuchSet();
        closest();
        onBothPans();
        tiesOfPans();
        noSuchPair();
        tenthMass();
        massesOfAFormerMarket();
        CHECK.finish();
    }

    // 13 to 15: "load: 0 or more", "goods: .. 0 or more", "INVALID if load is negative", "INVALID if goods is negative."
    private static void negative() {
        for (int load : new int[] {-1, -2, -500, MIN}) {
            Watch.unchanged(CHECK, "13: fewestMasses(" + load + ")", -1, Scene::busy, x -> x.fewestMasses(load));
            Watch.unchanged(CHECK, "14: closestLoad(" + load + ")", -1, Scene::busy, x -> x.closestLoad(load));
            Watch.unchanged(CHECK, "15: twoPans(" + load + ")", -1, Scene::busy, x -> x.twoPans(load));
        }
    }

    // 13: "Returns the set, which is empty for 0"; 14: "Returns the sum, which is 0 for the empty set"
    private static void nothing() {
        ScaleInspection x = Text.market("mass 1;mass 1;mass 2;");
        CHECK.due("13: 0", 0, x.fewestMasses(0));
        CHECK.due("13: 1", 1, x.fewestMasses(1));
        CHECK.due("14: 0", 0, x.closestLoad(0));
        CHECK.due("14: 1", 1, x.closestLoad(1));
        // Equal masses could lie on both pans, but none at all are fewer.
        CHECK.due("15: 0", 0, x.twoPans(0));
        CHECK.due("15: 1", 1, x.twoPans(1));
    }

    private static void withoutMasses() {
        ScaleInspection x = new ScaleInspection();
        CHECK.due("13: 0 of no masses", 0, x.fewestMasses(0));
        CHECK.due("14: 0 of no masses", 0, x.closestLoad(0));
        CHECK.due("15: 0 of no masses", 0, x.twoPans(0));
        for (int load : new int[] {1, 1000, MAX}) {
            CHECK.due("13: " + load + " of no masses", -2, x.fewestMasses(load));
            CHECK.due("14: " + load + " of no masses", 0, x.closestLoad(load));
            CHECK.due("15: " + load + " of no masses", -2, x.twoPans(load));
        }
        for (int load : new int[] {-1, MIN}) {
            CHECK.due("13: " + load + " of no masses", -1, x.fewestMasses(load));
            CHECK.due("14: " + load + " of no masses", -1, x.closestLoad(load));
            CHECK.due("15: " + load + " of no masses", -1, x.twoPans(load));
        }
    }

    // 13: "the smallest set of masses": the one with the fewest masses, though another one be lower as a bit set.
    private static void smallestSet() {
        ScaleInspection x = Text.market("mass 1;mass 2;mass 3;mass 6;mass 12;mass 6 plus 6;mass 24;");
        CHECK.due("13: 6 alone", 8, x.fewestMasses(6));
        CHECK.due("13: 12 alone", 16, x.fewestMasses(12));
        CHECK.due("13: 24 alone", 64, x.fewestMasses(24));
        CHECK.due("13: 36 of two", 80, x.fewestMasses(36));
        CHECK.due("13: 60", 127, x.fewestMasses(60));
    }

    // 13: "Ties go to the lowest bit set."
    private static void tiesOfSets() {
        ScaleInspection x = Text.market("mass 5;mass 4;mass 3;mass 2;mass 1;mass 5;");
        CHECK.due("13: 5 by mass 0, not 5", 1, x.fewestMasses(5));
        CHECK.due("13: 6 by masses 1 and 3, not 0 and 4", 10, x.fewestMasses(6));
        CHECK.due("13: 7 by masses 1 and 2, not 0 and 3", 6, x.fewestMasses(7));
        CHECK.due("13: 10 by masses 0 and 5, not three", 33, x.fewestMasses(10));
    }

    // 13: "NONE if there is no such set"
    private static void noSuchSet() {
        ScaleInspection x = Text.market("mass 10;mass 25;");
        int[] loads = {1, 9, 10, 11, 24, 25, 26, 34, 35, 36, 70, MAX};
        int[] sets = {-2, -2, 1, -2, -2, 2, -2, -2, 3, -2, -2, -2};
        for (int i = 0; i < loads.length; i++) {
            CHECK.due("13: fewestMasses(" + loads[i] + ")", sets[i], x.fewestMasses(loads[i]));
        }
        ScaleInspection y = Text.market(TEN_HEAVIEST);
        CHECK.due("13: the greatest sum", 1023, y.fewestMasses(HEAVIEST_SUM));
        CHECK.due("13: one more", -2, y.fewestMasses(HEAVIEST_SUM + 1));
        CHECK.due("13: one less", -2, y.fewestMasses(HEAVIEST_SUM - 1));
    }

    // 14: "the greatest sum of the values of a set of masses that is at most a given load"
    private static void closest() {
        ScaleInspection x = Text.market("mass 10;mass 25;");
        int[] loads = {1, 9, 10, 11, 24, 25, 26, 34, 35, 36, MAX};
        int[] sums = {0, 0, 10, 10, 10, 25, 25, 25, 35, 35, 35};
        for (int i = 0; i < loads.length; i++) {
            CHECK.due("14: closestLoad(" + loads[i] + ")", sums[i], x.closestLoad(loads[i]));
        }
        // The greatest sum need not be that of the greatest bit set.
        ScaleInspection z = Text.market("mass 60;mass 25;mass 10;");
        int[] sumsOfZ = {10, 25, 35, 60, 70, 85, 95};
        for (int i = 0; i < sumsOfZ.length; i++) {
            CHECK.due("14: one less than " + sumsOfZ[i], i == 0 ? 0 : sumsOfZ[i - 1], z.closestLoad(sumsOfZ[i] - 1));
            CHECK.due("14: just " + sumsOfZ[i], sumsOfZ[i], z.closestLoad(sumsOfZ[i]));
            CHECK.due("14: one more than " + sumsOfZ[i], sumsOfZ[i], z.closestLoad(sumsOfZ[i] + 1));
        }
        ScaleInspection y = Text.market(TEN_HEAVIEST);
        CHECK.due("14: just the greatest sum", HEAVIEST_SUM, y.closestLoad(HEAVIEST_SUM));
        CHECK.due("14: one less", HEAVIEST_SUM - 1000098, y.closestLoad(HEAVIEST_SUM - 1));
        CHECK.due("14: MAX", HEAVIEST_SUM, y.closestLoad(MAX));
        CHECK.due("14: less than each mass", 0, y.closestLoad(1000097));
        CHECK.due("14: one mass", 1000098, y.closestLoad(1000098));
    }

    // 15: "two disjoint sets of masses, left and right, such that the sum of the right one minus the sum of the left
    // one is the mass of the goods, with the fewest masses in all"
    private static void onBothPans() {
        ScaleInspection x = Text.market("mass 30;mass 50;mass 20;");
        CHECK.due("15: 20 by one mass, not 50 - 30", 4, x.twoPans(20));
        CHECK.due("15: 50 by one mass, not 30 + 20", 2, x.twoPans(50));
        CHECK.due("15: 10 = 30 - 20", 1 + 1024 * 4, x.twoPans(10));
        CHECK.due("15: 40 = 50 + 20 - 30", 6 + 1024, x.twoPans(40));
        CHECK.due("15: 60 = 50 + 30 - 20", 3 + 1024 * 4, x.twoPans(60));
        // One mass cannot lie on both pans: 60 = 30 + 30 is not there with one mass of 30.
        ScaleInspection y = Text.market("mass 30;");
        CHECK.due("15: 30", 1, y.twoPans(30));
        CHECK.due("15: 60", -2, y.twoPans(60));
        CHECK.due("15: 0", 0, y.twoPans(0));
    }

    // 15: "Ties go to the lowest right set, then to the lowest left set."
    private static void tiesOfPans() {
        ScaleInspection x = Text.market("mass 10;mass 40;mass 30;mass 20;mass 50;");
        // Of two masses: 40 - 10, 50 - 20 and 10 + 20 make 30, but one mass does too.
        CHECK.due("15: 30", 4, x.twoPans(30));
        ScaleInspection y = Text.market("mass 10;mass 40;mass 70;mass 20;mass 50;");
        CHECK.due("15: 40 - 10 has the right set 2, below 9, 4 and 16", 2 + 1024, y.twoPans(30));
        ScaleInspection z = Text.market("mass 9;mass 4;mass 4;mass 5;");
        CHECK.due("15: 5 by one mass, not 9 - 4", 8, z.twoPans(5));
        ScaleInspection w = Text.market("mass 9;mass 4;mass 4;");
        CHECK.due("15: 9 - 4, the left set 2 before 4", 1 + 1024 * 2, w.twoPans(5));
        CHECK.due("15: 8 has one way", 6, w.twoPans(8));
        ScaleInspection v = Text.market("mass 4;mass 9;mass 9;mass 4;");
        CHECK.due("15: the right set 2 before 4, then the left set 1 before 8", 2 + 1024, v.twoPans(5));
        CHECK.due("15: 13, the lowest of 3, 5, 10 and 12", 3, v.twoPans(13));
        CHECK.due("15: 14 = 18 - 4, the left set 1 before 8", 6 + 1024, v.twoPans(14));
        // The lowest right set comes before the lowest left set.
        ScaleInspection u = Text.market("mass 3;mass 20;mass 2;mass 19;");
        CHECK.due("15: 17 = 20 - 3 with 2 and 1, not 19 - 2 with 8 and 4", 2 + 1024, u.twoPans(17));
        ScaleInspection t = Text.market("mass 3;mass 19;mass 2;mass 20;");
        CHECK.due("15: 17 = 19 - 2 with 2 and 4, not 20 - 3 with 8 and 1", 2 + 1024 * 4, t.twoPans(17));
    }

    // 15: "NONE if there is no such pair"
    private static void noSuchPair() {
        ScaleInspection x = Text.market("mass 10;mass 25;");
        int[] goods = {1, 5, 9, 10, 11, 14, 15, 16, 24, 25, 26, 34, 35, 36, MAX};
        int[] pairs = {-2, -2, -2, 1, -2, -2, 2 + 1024, -2, -2, 2, -2, -2, 3, -2, -2};
        for (int i = 0; i < goods.length; i++) {
            CHECK.due("15: twoPans(" + goods[i] + ")", pairs[i], x.twoPans(goods[i]));
        }
        ScaleInspection y = Text.market(TEN_HEAVIEST);
        CHECK.due("15: the greatest sum", 1023, y.twoPans(HEAVIEST_SUM));
        CHECK.due("15: one more", -2, y.twoPans(HEAVIEST_SUM + 1));
        CHECK.due("15: one less", -2, y.twoPans(HEAVIEST_SUM - 1));
        CHECK.due("15: no difference of equal ones", 0, y.twoPans(0));
        CHECK.due("15: no small difference", -2, y.twoPans(1));
        // Differences that agree in their lowest 20 bits must not be taken for each other.
        CHECK.due("15: 2^20 more than nothing", -2, y.twoPans(1 << 20));
        CHECK.due("15: 2^24 more than a mass", -2, y.twoPans((1 << 24) + 1000098));
        CHECK.due("15: 2^30 more than a mass", -2, y.twoPans((1 << 30) + 1000098));
    }

    // 15: "Returns the right set + 1024 * the left set": ten bits for each.
    private static void tenthMass() {
        ScaleInspection x = Text.market("mass 1;mass 2;mass 4;mass 8;mass 16;mass 32;mass 64;mass 128;mass 256;mass 600;");
        CHECK.due("13: the tenth mass", 512, x.fewestMasses(600));
        CHECK.due("15: the tenth mass on the right", 512, x.twoPans(600));
        CHECK.due("15: the ninth on the left", 512 + 1024 * 256, x.twoPans(344));
        CHECK.due("15: four on the right, not nine on the left", 89, x.twoPans(89));
        CHECK.due("15: all on the right", 1023, x.twoPans(1111));
        CHECK.due("15: one more than all", -2, x.twoPans(1112));
        ScaleInspection y = Text.market("mass 10000;" + "mass 100;".repeat(8) + "mass 7;");
        CHECK.due("15: the tenth mass on the left", 1 + 1024 * 512, y.twoPans(9993));
        CHECK.due("15: nine on the left", 1 + 1024 * 1022, y.twoPans(9193));
        CHECK.due("15: the tenth with the second", 514, y.twoPans(107));
        CHECK.due("15: the second without the tenth", 2 + 1024 * 512, y.twoPans(93));
    }

    // Fewer masses come after more of them: what the former ones made plays no part.
    private static void massesOfAFormerMarket() {
        ScaleInspection x = Text.market("mass 1;mass 2;mass 4;mass 8;mass 16;mass 32;mass 64;mass 128;mass 256;mass 512;");
        for (int masses = 9; masses >= 0; masses--) {
            Text.parse(x, "mass 1;".repeat(masses));
            CHECK.due("13: all " + masses, (1 << masses) - 1, x.fewestMasses(masses));
            CHECK.due("13: one more", -2, x.fewestMasses(masses + 1));
            CHECK.due("14: all " + masses, masses, x.closestLoad(MAX));
            CHECK.due("15: all " + masses, (1 << masses) - 1, x.twoPans(masses));
            CHECK.due("15: one more", -2, x.twoPans(masses + 1));
        }
    }
}
