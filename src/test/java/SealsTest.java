/** Promises 30 to 35: seals, risk and lots. */
public final class SealsTest {
    private static final Check CHECK = new Check("SealsTest");
    private static final int[] NO_DAY = {-1, 10000, Integer.MIN_VALUE, Integer.MAX_VALUE};
    private static final String MARKET = "trader;trader;trader;scale 0 0 10 1000;scale 0 1 10 1000;scale 1 2 10 1000;"
            + "scale 0 1 10 1000;mass 500;term 1 1;term 2 5;";

    public static void main(String[] args) {
        sealState();
        lastVisit();
        expiryDay();
        scalesWith();
        risk();
        riskiestTrader();
        lotOfNew();
        lotByRisk();
        greatestMarket();
        smallerMarketAfterwards();
        CHECK.finish();
    }

    private static void pass(ScaleInspection x, int scale, int day) {
        int visit = x.startVisit(scale, day);
        x.record(visit, 0, 0);
        x.record(visit, 1, 500);
        x.record(visit, 1, 500);
        CHECK.due("passed", 0, x.closeVisit(visit));
    }

    private static void fail(ScaleInspection x, int scale, int day) {
        CHECK.due("failed", 1, x.closeVisit(x.startVisit(scale, day)));
    }

    private static void sealState() {
        ScaleInspection x = Text.market(MARKET);
        for (int scale : new int[] {-1, 4, Integer.MIN_VALUE, Integer.MAX_VALUE}) {
            CHECK.due("30: scale " + scale, -1, x.sealState(scale, 0));
            CHECK.due("31: scale " + scale, -1, x.expiryDay(scale, 0));
            CHECK.due("33: scale " + scale, -1, x.risk(scale, 0));
        }
        for (int day : NO_DAY) {
            CHECK.due("30: day " + day, -1, x.sealState(0, day));
            CHECK.due("31: day " + day, -1, x.expiryDay(0, day));
            CHECK.due("33: day " + day, -1, x.risk(0, day));
            CHECK.due("34: day " + day, -1, x.riskiestTrader(day));
            CHECK.due("35: day " + day, -1, x.lot(0, 0, day));
            CHECK.due("32: day " + day, -1, x.scalesWith(0, day));
        }
        pass(x, 0, 719);
        pass(x, 1, 720);
        pass(x, 2, 9999);
        states(x, 0, new int[] {0, 718, 719, 1079, 1080, 9999}, new int[] {0, 0, 1, 1, 2, 2});
        states(x, 1, new int[] {0, 719, 720, 1079, 1080, 9999}, new int[] {0, 0, 1, 1, 2, 2});
        states(x, 2, new int[] {0, 9998, 9999}, new int[] {0, 0, 1});
        states(x, 3, new int[] {0, 9999}, new int[] {0, 0});
    }

    private static void states(ScaleInspection x, int scale, int[] days, int[] states) {
        for (int i = 0; i < days.length; i++) {
            CHECK.due("30: sealState(" + scale + ", " + days[i] + ")", states[i], x.sealState(scale, days[i]));
        }
    }

    private static void lastVisit() {
        ScaleInspection x = Text.market(MARKET);
        pass(x, 0, 10);
        fail(x, 0, 20);
        fail(x, 1, 20);
        pass(x, 0, 20);
        x.startVisit(0, 30);
        states(x, 0, new int[] {9, 10, 19, 20, 30, 40}, new int[] {0, 1, 1, 1, 1, 1});
        CHECK.due("an open visit closes", 1, x.closeVisit(4));
        states(x, 0, new int[] {20, 29, 30, 40, 9999}, new int[] {1, 1, 3, 3, 3});
        pass(x, 0, 3000);
        states(x, 0, new int[] {2999, 3000, 9999}, new int[] {3, 1, 2});
        states(x, 1, new int[] {19, 20, 9999}, new int[] {0, 3, 3});
    }

    private static void expiryDay() {
        ScaleInspection x = Text.market(MARKET);
        CHECK.due("31: new", -2, x.expiryDay(0, 9999));
        pass(x, 0, 719);
        pass(x, 1, 720);
        pass(x, 2, 9999);
        fail(x, 3, 5);
        CHECK.due("31: before the visit", -2, x.expiryDay(0, 718));
        CHECK.due("31: term 2", 1080, x.expiryDay(0, 719));
        CHECK.due("31: on the last day", 1080, x.expiryDay(0, 1079));
        CHECK.due("31: expired", -2, x.expiryDay(0, 1080));
        CHECK.due("31: term 1", 1080, x.expiryDay(1, 720));
        CHECK.due("31: beyond 9999", 11520, x.expiryDay(2, 9999));
        CHECK.due("31: rejected", -2, x.expiryDay(3, 5));
        pass(x, 0, 800);
        CHECK.due("31: the earlier seal", 1080, x.expiryDay(0, 799));
        CHECK.due("31: the later seal", 1440, x.expiryDay(0, 800));
    }

    private static void scalesWith() {
        ScaleInspection x = Text.market(MARKET);
        CHECK.due("32: all new", 15, x.scalesWith(0, 0));
        CHECK.due("32: none valid", 0, x.scalesWith(1, 0));
        CHECK.due("32: state -1", -1, x.scalesWith(-1, 0));
        CHECK.due("32: state 4", -1, x.scalesWith(4, 0));
        CHECK.due("32: state MIN", -1, x.scalesWith(Integer.MIN_VALUE, 0));
        pass(x, 0, 0);
        pass(x, 1, 0);
        fail(x, 3, 0);
        int[][] due = {{4, 3, 0, 8}, {4, 1, 2, 8}, {4, 0, 3, 8}};
        for (int state = 0; state < 4; state++) {
            for (int year = 0; year < 3; year++) {
                CHECK.due("32: " + state + " in year " + year, due[year][state], x.scalesWith(state, 360 * year));
            }
        }
        ScaleInspection y = Text.market("trader;" + "scale 0 0 1 20;".repeat(24));
        CHECK.due("32: all 24", 0xffffff, y.scalesWith(0, 9999));
        CHECK.due("32: without scales", 0, new ScaleInspection().scalesWith(0, 9999));
    }

    private static void risks(ScaleInspection x, int day, int... due) {
        for (int scale = 0; scale < due.length; scale++) {
            CHECK.due("33: risk(" + scale + ", " + day + ")", due[scale], x.risk(scale, day));
        }
    }

    private static void risk() {
        ScaleInspection x = Text.market(MARKET);
        risks(x, 0, 4, 4, 4, 4);
        fail(x, 0, 100);
        risks(x, 99, 4, 4, 4, 4);
        risks(x, 100, 7, 5, 4, 5);
        fail(x, 0, 100);
        fail(x, 1, 101);
        risks(x, 100, 8, 5, 4, 5);
        risks(x, 101, 9, 8, 4, 6);
        pass(x, 0, 102);
        risks(x, 102, 4, 7, 4, 5);
        pass(x, 1, 103);
        risks(x, 103, 3, 2, 4, 4);
        risks(x, 360, 3, 4, 4, 4);
        risks(x, 720, 5, 4, 4, 4);
        x.startVisit(3, 720);
        risks(x, 720, 5, 4, 4, 4);
        fail(x, 2, 720);
        risks(x, 720, 5, 4, 7, 4);
        risks(x, 719, 3, 4, 4, 4);
    }

    private static void riskiestTrader() {
        CHECK.due("34: no traders", -2, new ScaleInspection().riskiestTrader(0));
        CHECK.due("34: no scales", 0, Text.market("trader;trader;").riskiestTrader(0));
        ScaleInspection x = Text.market("trader;trader;trader;scale 2 0 1 20;scale 1 0 1 20;mass 10;");
        CHECK.due("34: a tie", 1, x.riskiestTrader(0));
        CHECK.due("start", 0, x.startVisit(0, 50));
        x.closeVisit(0);
        CHECK.due("34: before the failure", 1, x.riskiestTrader(49));
        CHECK.due("34: after the failure", 2, x.riskiestTrader(50));
        ScaleInspection y = Text.market("trader;trader;scale 0 0 1 20;scale 1 0 1 20;scale 1 0 1 20;");
        CHECK.due("34: a sum", 1, y.riskiestTrader(0));
        y.startVisit(0, 5);
        y.closeVisit(0);
        CHECK.due("34: 7 and 8", 1, y.riskiestTrader(5));
        y.startVisit(0, 6);
        y.closeVisit(1);
        CHECK.due("34: 8 and 8", 0, y.riskiestTrader(6));
    }

    private static void lotOfNew() {
        ScaleInspection x = Text.market(MARKET);
        for (int bad : new int[] {-1, 1000000, Integer.MIN_VALUE, Integer.MAX_VALUE}) {
            CHECK.due("35: seed " + bad, -1, x.lot(bad, 0, 0));
        }
        CHECK.due("35: position -1", -1, x.lot(0, -1, 0));
        CHECK.due("35: position MIN", -1, x.lot(0, Integer.MIN_VALUE, 0));
        CHECK.due("35: position 4", -2, x.lot(0, 4, 0));
        CHECK.due("35: position MAX", -2, x.lot(999999, Integer.MAX_VALUE, 9999));
        CHECK.due("35: INVALID before NONE", -1, x.lot(1000000, 4, 0));
        CHECK.due("35: INVALID before NONE", -1, x.lot(0, 4, 10000));
        CHECK.due("35: no scales", -2, new ScaleInspection().lot(0, 0, 0));
        // Seed 1: x is 1103527590, 2524885223 mod 2^31 = 377401575, 662824084, ..; r is 16838 mod 16 = 6, then
        // 5758 mod 12 = 10, then 10113 mod 8 = 1.
        CHECK.due("35: first", 1, x.lot(1, 0, 0));
        CHECK.due("35: second", 3, x.lot(1, 1, 0));
        CHECK.due("35: third", 0, x.lot(1, 2, 0));
        CHECK.due("35: fourth", 2, x.lot(1, 3, 0));
    }

    private static void greatestMarket() {
        ScaleInspection x = Text.market("trader;".repeat(8) + "scale 7 2 1 20;".repeat(24) + "mass 10;");
        CHECK.due("34: the last trader", 7, x.riskiestTrader(9999));
        CHECK.due("33: the last scale", 4, x.risk(23, 0));
        int drawn = 0;
        for (int position = 0; position < 24; position++) {
            drawn |= 1 << x.lot(999999, position, 0);
        }
        CHECK.due("35: all scales are drawn", 0xffffff, drawn);
        CHECK.due("35: and no more", -2, x.lot(999999, 24, 0));
        CHECK.due("32: all are new", 0xffffff, x.scalesWith(0, 0));
    }

    /** Risks of a former market play no part. */
    private static void smallerMarketAfterwards() {
        ScaleInspection x = Text.market("trader;trader;" + "scale 1 0 1 20;".repeat(4) + "scale 0 0 1 20;");
        for (int scale = 0; scale < 4; scale++) {
            fail(x, scale, 0);
        }
        CHECK.due("33: six, one and three", 10, x.risk(3, 0));
        CHECK.due("34: the second trader", 1, x.riskiestTrader(0));
        x.lot(1, 4, 0);
        CHECK.due("parse", 0, Text.parse(x, "trader;trader;scale 0 0 1 20;scale 1 0 1 20;"));
        risks(x, 0, 4, 4);
        CHECK.due("34: a tie now", 0, x.riskiestTrader(0));
        for (int seed = 0; seed < 1000000; seed += 99999) {
            long r = (seed * 1103515245L + 12345L) % 2147483648L / 65536 % 8;
            CHECK.due("35: lot(" + seed + ", 0, 0)", r < 4 ? 0 : 1, x.lot(seed, 0, 0));
            CHECK.due("35: lot(" + seed + ", 1, 0)", r < 4 ? 1 : 0, x.lot(seed, 1, 0));
        }
    }

    /** Draws each lot by the words of the document, with the risks that the class answers. */
    private static void lotByRisk() {
        for (int day = 9; day < 13; day++) {
            ScaleInspection x = Text.market(MARKET);
            fail(x, 0, 10);
            pass(x, 2, 10);
            fail(x, 3, 10);
            fail(x, 3, 11);
            int[] risks = new int[4];
            for (int scale = 0; scale < 4; scale++) {
                risks[scale] = x.risk(scale, day);
            }
            for (int seed = 0; seed < 1000000; seed += 37037) {
                lots(x, seed, day, risks);
            }
        }
    }

    private static void lots(ScaleInspection x, int seed, int day, int[] risks) {
        long state = seed;
        boolean[] drawn = new boolean[4];
        for (int position = 0; position < 4; position++) {
            state = (state * 1103515245L + 12345L) % 2147483648L;
            int sum = 0;
            for (int scale = 0; scale < 4; scale++) {
                sum += drawn[scale] ? 0 : risks[scale];
            }
            long r = state / 65536 % sum;
            int scale = 0;
            while (drawn[scale] || r >= risks[scale]) {
                r -= drawn[scale] ? 0 : risks[scale];
                scale++;
            }
            drawn[scale] = true;
            CHECK.due("35: lot(" + seed + ", " + position + ", " + day + ")", scale, x.lot(seed, position, day));
        }
    }
}
