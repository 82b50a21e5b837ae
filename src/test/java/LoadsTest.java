/** Promises 13 to 15: sets of masses for loads. */
public final class LoadsTest {
    private static final Check CHECK = new Check("LoadsTest");

    public static void main(String[] args) {
        fewestMasses();
        closestLoad();
        twoPans();
        twoPansOfMany();
        CHECK.finish();
    }

    private static void fewestMasses() {
        ScaleInspection x = Text.market("mass 10;mass 20;mass 20;mass 30;mass 40;mass 50;");
        CHECK.due("13: nothing", 0, x.fewestMasses(0));
        CHECK.due("13: one mass before two", 32, x.fewestMasses(50));
        CHECK.due("13: the lower of two equal ones", 2, x.fewestMasses(20));
        CHECK.due("13: the lowest of 10+50, 20+40", 18, x.fewestMasses(60));
        CHECK.due("13: all", 63, x.fewestMasses(170));
        CHECK.due("13: too much", -2, x.fewestMasses(180));
        CHECK.due("13: between", -2, x.fewestMasses(55));
        CHECK.due("13: MAX", -2, x.fewestMasses(Integer.MAX_VALUE));
        CHECK.due("13: negative", -1, x.fewestMasses(-1));
        CHECK.due("13: MIN", -1, x.fewestMasses(Integer.MIN_VALUE));
        ScaleInspection z = Text.market("mass 1;mass 2;mass 4;mass 8;mass 16;mass 32;mass 64;mass 128;mass 256;mass 512;");
        for (int load = 0; load < 1024; load += 31) {
            CHECK.due("13: powers of 2, " + load, load, z.fewestMasses(load));
            CHECK.due("14: powers of 2, " + load, load, z.closestLoad(load));
        }
        CHECK.due("13: all ten", 1023, z.fewestMasses(1023));
        CHECK.due("13: one more", -2, z.fewestMasses(1024));
        ScaleInspection y = Text.market("mass 3;mass 4;mass 5 plus 2;");
        CHECK.due("13: fewer beats lower", 4, y.fewestMasses(7));
    }

    private static void closestLoad() {
        ScaleInspection x = Text.market("mass 10;mass 25;mass 60;");
        int[] loads = {0, 9, 10, 24, 25, 34, 35, 59, 60, 69, 70, 84, 85, 94, 95, 96, Integer.MAX_VALUE};
        int[] sums = {0, 0, 10, 10, 25, 25, 35, 35, 60, 60, 70, 70, 85, 85, 95, 95, 95};
        for (int i = 0; i < loads.length; i++) {
            CHECK.due("14: closestLoad(" + loads[i] + ")", sums[i], x.closestLoad(loads[i]));
        }
        CHECK.due("14: negative", -1, x.closestLoad(-1));
        CHECK.due("14: MIN", -1, x.closestLoad(Integer.MIN_VALUE));
    }

    private static void twoPans() {
        ScaleInspection x = Text.market("mass 10;mass 30;mass 90;");
        CHECK.due("15: nothing", 0, x.twoPans(0));
        CHECK.due("15: 10", 1, x.twoPans(10));
        CHECK.due("15: 20 = 30 - 10", 2 + 1024, x.twoPans(20));
        CHECK.due("15: 50 = 90 - 30 - 10", 4 + 1024 * 3, x.twoPans(50));
        CHECK.due("15: 130", 7, x.twoPans(130));
        CHECK.due("15: 131", -2, x.twoPans(131));
        CHECK.due("15: 140", -2, x.twoPans(140));
        CHECK.due("15: MAX", -2, x.twoPans(Integer.MAX_VALUE));
        CHECK.due("15: negative", -1, x.twoPans(-1));
        CHECK.due("15: MIN", -1, x.twoPans(Integer.MIN_VALUE));
        ScaleInspection y = Text.market("mass 10;mass 10;mass 20;mass 30;");
        CHECK.due("15: fewest beats lowest", 4, y.twoPans(20));
        CHECK.due("15: the lowest right set", 1, y.twoPans(10));
        ScaleInspection z = Text.market("mass 7;mass 7;mass 9;mass 9;");
        CHECK.due("15: right first, then left", 4 + 1024, z.twoPans(2));
        CHECK.due("15: 16", 5, z.twoPans(16));
        ScaleInspection w = Text.market("mass 50;mass 20;mass 40;mass 10;");
        CHECK.due("15: 30 = 50 - 20 and 40 - 10 and 20 + 10", 1 + 1024 * 2, w.twoPans(30));
        CHECK.due("15: 70 = 50 + 20 and 50 + 40 - 20 and 50 + 10 + ..", 3, w.twoPans(70));
    }

    private static void twoPansOfMany() {
        ScaleInspection x = Text.market("mass 5;mass 5;mass 5;mass 5;mass 5;mass 5;mass 5;mass 5;mass 5;mass 5;");
        for (int k = 0; k <= 10; k++) {
            CHECK.due("15: " + k + " of ten equal ones", (1 << k) - 1, x.twoPans(5 * k));
        }
        CHECK.due("15: 11 of ten", -2, x.twoPans(55));
        String powers = "mass 1;mass 3;mass 9;mass 27;mass 81;mass 243;mass 729;mass 2187;mass 6561;mass 19683;";
        ScaleInspection y = Text.market(powers);
        // In powers of 3 every number has one way; 29524 is the sum of all.
        for (int goods = 0; goods <= 29524; goods += 61) {
            int pair = y.twoPans(goods);
            int right = pair & 1023;
            int left = pair >> 10;
            int sum = 0;
            for (int k = 0, value = 1; k < 10; k++, value *= 3) {
                sum += ((right >> k & 1) - (left >> k & 1)) * value;
            }
            CHECK.due("15: powers of 3, " + goods, goods, sum);
            CHECK.due("15: disjoint", 0, right & left);
        }
        CHECK.due("15: all powers", 1023, y.twoPans(29524));
        CHECK.due("15: one more", -2, y.twoPans(29525));
        ScaleInspection z = Text.market("mass 999999 plus 99;mass 999999 plus 98;mass 999999 plus 99;"
                + "mass 999999 plus 99;mass 999999 plus 99;mass 999999 plus 99;mass 999999 plus 99;"
                + "mass 999999 plus 99;mass 999999 plus 99;mass 999999 plus 99;");
        CHECK.due("15: the heaviest goods", 1023, z.twoPans(10000979));
        CHECK.due("15: a small difference", 1 + 1024 * 2, z.twoPans(1));
    }
}
