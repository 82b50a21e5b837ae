/** Promises 1 to 12: a new object, the input buffer, market texts and what they declare. */
public final class MarketTest {
    private static final Check CHECK = new Check("MarketTest");

    public static void main(String[] args) {
        newObject();
        append();
        parseLength();
        parseSucceeds();
        tokens();
        grammar();
        secondTerm();
        ranges();
        limits();
        smallestPosition();
        parseErrorChangesNothing();
        parseSuccessRemovesChanges();
        parseAgainAndAgain();
        errorPosition();
        counts();
        scales();
        baseTolerance();
        massValue();
        CHECK.finish();
    }

    private static String times(int count, String statement) {
        return statement.repeat(count);
    }

    /** The text must be refused with this code at this position. */
    private static void refused(String text, int code, int position) {
        ScaleInspection x = new ScaleInspection();
        CHECK.due("parse of \"" + text + "\"", code, Text.parse(x, text));
        CHECK.due("errorPosition of \"" + text + "\"", position, x.errorPosition());
    }

    private static void taken(String text) {
        refused(text, 0, ScaleInspection.NONE);
    }

    private static void newObject() {
        ScaleInspection x = new ScaleInspection();
        CHECK.due("1: traderCount", 0, x.traderCount());
        CHECK.due("1: scaleCount", 0, x.scaleCount());
        CHECK.due("1: massCount", 0, x.massCount());
        CHECK.due("1: setCount", 0, x.setCount());
        CHECK.due("1: visitCount", 0, x.visitCount());
        CHECK.due("1: undoDepth", 0, x.undoDepth());
        CHECK.due("1: errorPosition", -2, x.errorPosition());
        CHECK.due("1: parse(1) of an empty buffer", -1, x.parse(1));
        CHECK.due("1: twoPans(0)", 0, x.twoPans(0));
        CHECK.due("1: twoPans(1)", -2, x.twoPans(1));
        CHECK.due("1: fewestMasses(0)", 0, x.fewestMasses(0));
        CHECK.due("1: fewestMasses(1)", -2, x.fewestMasses(1));
        CHECK.due("1: closestLoad(1)", 0, x.closestLoad(1));
    }

    private static void append() {
        ScaleInspection x = new ScaleInspection();
        for (int i = 1; i <= 40; i++) {
            CHECK.due("2: append " + i, 20 * i, x.append(0x20202020, 0x20202020, 0x20202020, 0x20202020, 0x20202020));
        }
        CHECK.due("2: append 41", -3, x.append(0x3b3b3b3b, 0x3b3b3b3b, 0x3b3b3b3b, 0x3b3b3b3b, 0x3b3b3b3b));
        CHECK.due("2: parse(801)", -1, x.parse(801));
        CHECK.due("2: parse(800)", 0, x.parse(800));
        CHECK.due("2: append after a parse", 20, x.append(0, 0, 0, 0, 0));
        // Every byte has its place: "mass 1;mass 23;;;;;;" is wrong at its first surplus semicolon.
        ScaleInspection y = new ScaleInspection();
        CHECK.due("2: append", 20, y.append(0x6d617373, 0x20313b6d, 0x61737320, 0x32333b3b, 0x3b3b3b3b));
        CHECK.due("2: parse(20)", 1, y.parse(20));
        CHECK.due("2: errorPosition", 15, y.errorPosition());
        CHECK.due("2: append", 20, y.append(0x6d617373, 0x20313b6d, 0x61737320, 0x32333b3b, 0x3b3b3b3b));
        CHECK.due("2: parse(15)", 0, y.parse(15));
        CHECK.due("2: massValue(1)", 23, y.massValue(1));
        // Bytes from 128 on are no letters.
        ScaleInspection z = new ScaleInspection();
        z.append(0x74f26164, 0x65723b20, -1, -1, -1);
        CHECK.due("2: parse with a byte above 127", 1, z.parse(8));
        CHECK.due("2: its place", 0, z.errorPosition());
    }

    private static void parseLength() {
        ScaleInspection x = Text.market("trader;");
        Text.append(x, "trader;trader;");
        CHECK.due("3: parse(-1)", -1, x.parse(-1));
        CHECK.due("3: parse(21)", -1, x.parse(21));
        CHECK.due("3: parse(MIN)", -1, x.parse(Integer.MIN_VALUE));
        CHECK.due("3: parse(MAX)", -1, x.parse(Integer.MAX_VALUE));
        CHECK.due("3: traders before", 1, x.traderCount());
        CHECK.due("3: the buffer is as it was", 40, x.append(0, 0, 0, 0, 0));
        CHECK.due("3: parse(14) leaves out the rest", 0, x.parse(14));
        CHECK.due("3: traders after", 2, x.traderCount());
        CHECK.due("3: the buffer is empty after a success", -1, x.parse(1));
        CHECK.due("3: parse(0)", 0, x.parse(0));
        CHECK.due("3: parse(0) gives the empty market", 0, x.traderCount());
        Text.append(x, "trader");
        CHECK.due("3: parse(6)", 1, x.parse(6));
        CHECK.due("3: the buffer is empty after an error", -1, x.parse(1));
    }

    private static void parseSucceeds() {
        taken("");
        taken("  \n \n");
        taken("trader;");
        taken("trader;scale 0 0 1 20;mass 1;set 2;term 0 1;");
        taken("\ntrader\n;\nscale 0 2 1000 999999 ; mass 1 plus 99 ; mass 100 minus 99 ; set 12 maybe ; term 2 5 ; ");
        taken("trader;scale0 2 5 100;mass7plus 3;set3maybe;term1 4;");
        taken("mass 000001;mass 999999plus99;");
        taken("term 2 1;term 0 1;term 1 5;");
    }

    private static void tokens() {
        refused("traderss;", 1, 0);
        refused("trader;tradertra;", 1, 7);
        refused("mass 1234567;", 1, 5);
        refused("mass 0000001;", 1, 5);
        refused("mass 1 plus 0000001;", 1, 12);
        refused("mass 5\t;", 1, 6);
        refused("mass 5\r\n;", 1, 6);
        refused("Trader;", 1, 0);
        refused("trAder;", 1, 0);
        refused("mass -5;", 1, 5);
        refused("mass 5,", 1, 6);
        refused("mass 5:", 1, 6);
        refused("mass 5/", 1, 6);
        refused("mass 5`", 1, 6);
        refused("mass 5{", 1, 6);
        refused("mass 5\u00e9", 1, 6);
        refused("mass 5\u0000", 1, 6);
    }

    private static void grammar() {
        refused("trader", 1, 6);
        refused("trader  \n", 1, 9);
        refused("scale", 1, 5);
        refused("trader trader;", 1, 7);
        refused("trader 1;", 1, 7);
        refused(";", 1, 0);
        refused("1;", 1, 0);
        refused("plus;", 1, 0);
        refused("maybe;", 1, 0);
        refused("trade;", 1, 0);
        refused("tradere;", 1, 0);
        refused("trader;scale 0 0 1;", 1, 18);
        refused("trader;scale 0 0 1 20 1;", 1, 22);
        refused("trader;scale 0 0 one 20;", 1, 17);
        refused("trader;scale;", 1, 12);
        refused("mass;", 1, 4);
        refused("mass plus 1;", 1, 5);
        refused("mass 1 maybe;", 1, 7);
        refused("mass 1 plus;", 1, 11);
        refused("mass 1 minus;", 1, 12);
        refused("mass 1 plus 1 plus 1;", 1, 14);
        refused("mass 100 plus 1 minus 1;", 1, 16);
        refused("set maybe;", 1, 4);
        refused("set 3 maybe maybe;", 1, 12);
        refused("set 3 plus 1;", 1, 6);
        refused("set 3 4;", 1, 6);
        refused("term;", 1, 4);
        refused("term 0;", 1, 6);
        refused("term 0 1 2;", 1, 9);
        refused("term 0 1", 1, 8);
        refused("set 3 maybe", 1, 11);
        refused("mass 1 plus 1", 1, 13);
    }

    private static void secondTerm() {
        refused("term 0 1;term 0 1;", 2, 14);
        refused("term 2 1;term 1 3;term 2 9;", 2, 23);
        refused("term 1 1;term 1;", 2, 14);
        refused("term 1 1;term 1x", 2, 14);
    }

    private static void ranges() {
        refused("scale 0 0 1 20;", 3, 6);
        refused("trader;scale 1 0 1 20;", 3, 13);
        refused("trader;trader;scale 2 0 1 20;", 3, 20);
        refused("trader;scale 0 3 1 20;", 3, 15);
        refused("trader;scale 0 0 0 20;", 3, 17);
        refused("trader;scale 0 0 1001 999999;", 3, 17);
        refused("trader;scale 0 0 1 19;", 3, 19);
        refused("trader;scale 0 0 50 999;", 3, 20);
        taken("trader;scale 0 0 50 1000;scale 0 0 1000 20000;");
        refused("trader;scale 0 0 1000 19999;", 3, 22);
        refused("scale 0 0 1 20;trader;", 3, 6);
        refused("mass 0;", 3, 5);
        taken("mass 999999;mass 1 minus 0;mass 1 plus 0;mass 2 minus 1;mass 100 minus 99;mass 101 minus 99;");
        refused("mass 1 plus 100;", 3, 12);
        refused("mass 999 minus 100;", 3, 15);
        refused("mass 1 minus 1;", 3, 13);
        refused("mass 50 minus 50;", 3, 14);
        refused("set 1;", 3, 4);
        refused("set 0;", 3, 4);
        refused("set 13;", 3, 4);
        taken("set 2;set 12;");
        refused("term 3 1;", 3, 5);
        refused("term 0 0;", 3, 7);
        refused("term 0 6;", 3, 7);
    }

    private static void limits() {
        taken(times(8, "trader;"));
        refused(times(9, "trader;"), 4, 56);
        refused(times(8, "trader;") + "trader", 4, 56);
        taken("trader;" + times(24, "scale 0 0 1 20;"));
        refused("trader;" + times(24, "scale 0 0 1 20;") + "scale 9", 4, 7 + 24 * 15);
        taken(times(10, "mass 5;"));
        refused(times(10, "mass 5;") + " mass 0;", 4, 71);
        taken(times(4, "set 5;"));
        refused(times(4, "set 5;") + "set 1;", 4, 24);
        refused(times(8, "trader;") + "traders;", 1, 56);
    }

    private static void smallestPosition() {
        // The faults behind the first one play no part.
        refused("mass 0;set 1;\t", 3, 5);
        refused("set 13 ;term 9 9; \t", 3, 4);
        refused("mass 5 ?;set 1;", 1, 7);
        refused("trader;scale 0 3 0 0", 3, 15);
    }

    private static void parseErrorChangesNothing() {
        ScaleInspection x = Text.market("trader;scale 0 1 10 5000;mass 1000;set 5 maybe;term 1 3;");
        x.startVisit(0, 10);
        x.weigh(0, 1, 2, 0);
        x.saveSnapshot(0);
        CHECK.due("3: error", 3, Text.parse(x, "trader;trader;mass 7;set 3;term 1 1;scale 0 0 7 1;"));
        CHECK.due("3: traders stay", 1, x.traderCount());
        CHECK.due("3: scales stay", 1, x.scaleCount());
        CHECK.due("3: masses stay", 1000, x.massValue(0));
        CHECK.due("3: sums stay", 1, x.fewestMasses(1000));
        CHECK.due("3: pans stay", 1, x.twoPans(1000));
        CHECK.due("3: sets stay", 5, x.weightCount(0));
        CHECK.due("3: hypotheses stay", 7, x.hypothesisCount(0));
        CHECK.due("3: visits stay", 1, x.visitCount());
        CHECK.due("3: history stays", 2, x.undoDepth());
        CHECK.due("3: snapshot stays", true, x.restoreSnapshot(0));
    }

    private static void parseSuccessRemovesChanges() {
        ScaleInspection x = Text.market("trader;scale 0 1 10 5000;mass 1000;set 5;set 4;");
        x.startVisit(0, 10);
        x.weigh(0, 1, 2, 0);
        x.saveSnapshot(0);
        x.saveSnapshot(1);
        CHECK.due("3: success", 0, Text.parse(x, "trader;scale 0 1 10 5000;mass 7;set 5;set 3 maybe;"));
        CHECK.due("3: no visits", 0, x.visitCount());
        CHECK.due("3: no history", 0, x.undoDepth());
        CHECK.due("3: undo", false, x.undo());
        CHECK.due("3: slot 0 is empty", false, x.restoreSnapshot(0));
        CHECK.due("3: slot 1 is empty", false, x.restoreSnapshot(1));
        CHECK.due("3: sets are new", 10, x.hypothesisCount(0));
        CHECK.due("3: sets are other ones", 7, x.hypothesisCount(1));
        CHECK.due("3: no weighings", 0, x.weighingCount(0));
        CHECK.due("3: sums are new", 7, x.closestLoad(2000));
        CHECK.due("3: pans are new", -2, x.twoPans(1000));
        CHECK.due("3: a day before the old visit", 0, x.startVisit(0, 0));
    }

    /** Nothing of an earlier text may be left, whether it was taken or refused. */
    private static void parseAgainAndAgain() {
        String full = "trader;trader;scale 1 2 5 100;mass 7;mass 8;set 4;set 5 maybe;term 0 1;term 1 1;term 2 5;";
        ScaleInspection x = new ScaleInspection();
        for (int i = 0; i < 6; i++) {
            CHECK.due("3: full", 0, Text.parse(x, full));
            CHECK.due("3: its scales", 1, x.scaleCount());
            CHECK.due("3: refused", 1, Text.parse(x, full + "?"));
            CHECK.due("3: small", 0, Text.parse(x, i % 2 == 0 ? "" : "trader;term 0 1;term 1 1;term 2 1;"));
            CHECK.due("3: no scales", 0, x.scaleCount());
            CHECK.due("3: no masses", 0, x.massCount());
            CHECK.due("3: no sets", 0, x.setCount());
            CHECK.due("3: no sums", -2, x.fewestMasses(7));
            CHECK.due("3: terms again", 0, Text.parse(x, "trader;scale 0 0 1 20;mass 10;term 0 5;"));
            passedVisit(x);
            CHECK.due("3: the term of class 0", 1800, x.expiryDay(0, 0));
            CHECK.due("3: without terms", 0, Text.parse(x, "trader;scale 0 0 1 20;mass 10;"));
            CHECK.due("16: a visit", 0, x.startVisit(0, 0));
            CHECK.due("21: without the tests of a former market", 0, x.testCount(0));
            x.undo();
            passedVisit(x);
            CHECK.due("3: the default term", 720, x.expiryDay(0, 0));
        }
    }

    private static void passedVisit(ScaleInspection x) {
        int visit = x.startVisit(0, 0);
        x.record(visit, 0, 0);
        x.record(visit, 1, 10);
        x.record(visit, 1, 10);
        CHECK.due("28: passed", 0, x.closeVisit(visit));
    }

    private static void errorPosition() {
        ScaleInspection x = new ScaleInspection();
        CHECK.due("4: at first", -2, x.errorPosition());
        Text.parse(x, "trader;trade;");
        CHECK.due("4: after an error", 7, x.errorPosition());
        CHECK.due("4: INVALID", -1, x.parse(1));
        CHECK.due("4: INVALID leaves it", 7, x.errorPosition());
        Text.parse(x, "set 5;");
        CHECK.due("4: after a success", -2, x.errorPosition());
        Text.parse(x, ";");
        CHECK.due("4: position 0", 0, x.errorPosition());
    }

    private static void counts() {
        ScaleInspection x = Text.market("set 2;mass 3;trader;mass 4;trader;scale 0 0 1 20;trader;set 4;set 5;set 6;"
                + "scale 1 0 1 20;");
        CHECK.due("5: traderCount", 3, x.traderCount());
        CHECK.due("6: scaleCount", 2, x.scaleCount());
        CHECK.due("7: massCount", 2, x.massCount());
        CHECK.due("8: setCount", 4, x.setCount());
        Text.parse(x, "trader;");
        CHECK.due("5: traderCount", 1, x.traderCount());
        CHECK.due("6: scaleCount", 0, x.scaleCount());
        CHECK.due("7: massCount", 0, x.massCount());
        CHECK.due("8: setCount", 0, x.setCount());
    }

    private static void scales() {
        ScaleInspection x = Text.market("trader;trader;scale 1 0 1 20;scale 0 1 2 999999;scale 1 2 3 77;");
        int[] traders = {1, 0, 1};
        int[] capacities = {20, 999999, 77};
        for (int scale = 0; scale < 3; scale++) {
            CHECK.due("9: trader(" + scale + ")", traders[scale], x.trader(scale));
            CHECK.due("10: capacity(" + scale + ")", capacities[scale], x.capacity(scale));
        }
        for (int scale : new int[] {-1, 3, 24, Integer.MIN_VALUE, Integer.MAX_VALUE}) {
            CHECK.due("9: trader(" + scale + ")", -1, x.trader(scale));
            CHECK.due("10: capacity(" + scale + ")", -1, x.capacity(scale));
        }
    }

    private static void tolerances(int scale, ScaleInspection x, int[] loads, int[] tolerances) {
        for (int i = 0; i < loads.length; i++) {
            CHECK.due("11: baseTolerance(" + scale + ", " + loads[i] + ")", tolerances[i],
                    x.baseTolerance(scale, loads[i]));
        }
    }

    private static void baseTolerance() {
        ScaleInspection x = Text.market("trader;scale 0 0 3 999999;scale 0 1 10 99999;scale 0 2 1 20000;"
                + "scale 0 2 7 140;scale 0 0 1000 999999;");
        tolerances(0, x, new int[] {0, 15000, 15001, 60000, 60001, 999999}, new int[] {2, 2, 3, 3, 5, 5});
        tolerances(1, x, new int[] {0, 5000, 5001, 20000, 20001, 99999}, new int[] {5, 5, 10, 10, 15, 15});
        tolerances(2, x, new int[] {0, 50, 51, 200, 201, 20000}, new int[] {1, 1, 1, 1, 2, 2});
        tolerances(3, x, new int[] {0, 140}, new int[] {4, 4});
        tolerances(4, x, new int[] {0, 999999}, new int[] {500, 500});
        for (int scale : new int[] {-1, 5, Integer.MIN_VALUE, Integer.MAX_VALUE}) {
            CHECK.dueThrow("11: baseTolerance(" + scale + ", 0)", IndexOutOfBoundsException.class,
                    () -> x.baseTolerance(scale, 0));
            CHECK.dueThrow("11: baseTolerance(" + scale + ", -1)", IndexOutOfBoundsException.class,
                    () -> x.baseTolerance(scale, -1));
        }
        for (int load : new int[] {-1, 141, Integer.MIN_VALUE, Integer.MAX_VALUE}) {
            CHECK.dueThrow("11: baseTolerance(3, " + load + ")", IllegalArgumentException.class,
                    () -> x.baseTolerance(3, load));
        }
    }

    private static void massValue() {
        ScaleInspection x = Text.market("mass 10;mass 10 plus 3;mass 10 minus 3;mass 999999 plus 99;mass 1 minus 0;");
        int[] values = {10, 13, 7, 1000098, 1};
        for (int mass = 0; mass < values.length; mass++) {
            CHECK.due("12: massValue(" + mass + ")", values[mass], x.massValue(mass));
        }
        for (int mass : new int[] {-1, 5, 10, Integer.MIN_VALUE, Integer.MAX_VALUE}) {
            CHECK.due("12: massValue(" + mass + ")", -1, x.massValue(mass));
        }
    }
}
