import java.util.function.ToLongFunction;

/** The edges of promises 1 to 12, each sentence of the document that names one; the sentence stands above its test. */
public final class MarketEdgesTest {
    private static final Check CHECK = new Check("MarketEdgesTest");
    private static final int NONE = ScaleInspection.NONE;
    private static final int MIN = Integer.MIN_VALUE;
    private static final int MAX = Integer.MAX_VALUE;
    private static final int BLANKS = 0x20202020;
    private static final String FULL_MARKET = "trader;".repeat(8) + "scale 7 0 1 20;".repeat(24)
            + "mass 5;".repeat(10) + "set 5;".repeat(4) + "term 0 5;term 1 5;term 2 5;";

    public static void main(String[] args) {
        emptyMarket();
        emptyBuffer();
        bufferLimit();
        fullBufferKeepsItsBytes();
        lengthOfParse();
        lengthZero();
        bytesBehindTheLength();
        errorChangesNothing();
        bufferIsEmptyAfterwards();
        successReplacesAll();
        positionOfTheLatestParse();
        everyByteBehindANumber();
        everyByteAtAStatement();
        everyByteAmongLetters();
        wordLength();
        everyLetterOfAWord();
        maximalRuns();
        numberLength();
        tokenAtItsFirstByte();
        numberedInTheirOrder();
        limitOfEachKind();
        limitsTogether();
        termHasNoLimit();
        rangeOfTrader();
        rangeOfClass();
        rangeOfDivision();
        rangeOfCapacity();
        rangeOfNominal();
        rangeOfCorrection();
        rangeOfCount();
        rangeOfYears();
        secondTermOfEachClass();
        defaultTerm();
        endsTooEarly();
        smallestCodeAtOnePosition();
        smallestPosition();
        counts();
        noSuchScale();
        noSuchMass();
        rangeOfLoad();
        toleranceSteps();
        CHECK.finish();
    }

    private static ScaleInspection parsed(String text, int code, int position) {
        ScaleInspection x = new ScaleInspection();
        CHECK.due("parse of \"" + text + "\"", code, Text.parse(x, text));
        CHECK.due("errorPosition of \"" + text + "\"", position, x.errorPosition());
        return x;
    }

    private static ScaleInspection taken(String text) {
        return parsed(text, 0, NONE);
    }

    /** A refused text must leave the market empty. */
    private static void refused(String text, int code, int position) {
        ScaleInspection x = parsed(text, code, position);
        int declared = x.traderCount() + x.scaleCount() + x.massCount() + x.setCount();
        CHECK.due("declared after \"" + text + "\"", 0, declared);
    }

    private static void unchanged(String call, long want, ToLongFunction<ScaleInspection> run) {
        Watch.unchanged(CHECK, call, want, Scene::busy, run);
    }

    // 1: "Creates an inspection with an empty market .."
    private static void emptyMarket() {
        ScaleInspection x = new ScaleInspection();
        ScaleInspection y = new ScaleInspection();
        CHECK.due("1: parse(0)", 0, y.parse(0));
        CHECK.due("1: a new object is as after an empty text", Watch.seen(y), Watch.seen(x));
        CHECK.due("1: trader(0)", -1, x.trader(0));
        CHECK.due("1: capacity(0)", -1, x.capacity(0));
        CHECK.due("1: massValue(0)", -1, x.massValue(0));
        CHECK.due("1: startVisit(0, 0)", -1, x.startVisit(0, 0));
        CHECK.due("1: record(0, 0, 0)", -1, x.record(0, 0, 0));
        CHECK.due("1: closeVisit(0)", -1, x.closeVisit(0));
        CHECK.due("1: weigh(0, 1, 2, 1)", -1, x.weigh(0, 1, 2, 1));
        CHECK.due("1: sealState(0, 0)", -1, x.sealState(0, 0));
        CHECK.due("1: undo", false, x.undo());
        CHECK.due("1: slot 0", false, x.restoreSnapshot(0));
        CHECK.due("1: slot 1", false, x.restoreSnapshot(1));
    }

    // 1: ".. and an empty input buffer."
    private static void emptyBuffer() {
        ScaleInspection x = new ScaleInspection();
        CHECK.due("1: parse(1)", -1, x.parse(1));
        CHECK.due("1: the first append", 20, x.append(BLANKS, BLANKS, BLANKS, BLANKS, BLANKS));
    }

    // 2: "FULL, with nothing appended, if it would exceed 800." A market is "a text of at most 800 bytes".
    private static void bufferLimit() {
        ScaleInspection x = new ScaleInspection();
        for (int length = 20; length <= 800; length += 20) {
            CHECK.due("2: append to " + length, length, x.append(BLANKS, BLANKS, BLANKS, BLANKS, BLANKS));
        }
        CHECK.due("2: append to 820", -3, x.append(BLANKS, BLANKS, BLANKS, BLANKS, BLANKS));
        CHECK.due("2: and once more", -3, x.append(0, 0, 0, 0, 0));
        CHECK.due("2: parse(820)", -1, x.parse(820));
        CHECK.due("2: parse(801)", -1, x.parse(801));
        CHECK.due("2: parse(800)", 0, x.parse(800));
        CHECK.due("2: the buffer is empty again", 20, x.append(BLANKS, BLANKS, BLANKS, BLANKS, BLANKS));
        ScaleInspection y = new ScaleInspection();
        Text.append(y, "mass 7;" + " ".repeat(773));
        CHECK.due("2: append to 800", 800, y.append(BLANKS, BLANKS, BLANKS, BLANKS, BLANKS));
        CHECK.due("2: append to 820", -3, y.append(BLANKS, BLANKS, BLANKS, BLANKS, BLANKS));
    }

    // 2: the same sentence: a full buffer holds what it held, from its first byte to its last.
    private static void fullBufferKeepsItsBytes() {
        String text = "set 2;" + " ".repeat(787) + "mass 7;";
        Watch.unchanged(CHECK, "2: append to a full buffer", -3, () -> {
            ScaleInspection x = new ScaleInspection();
            Text.append(x, text);
            return x;
        }, x -> x.append(0x3f3f3f3f, 0x3f3f3f3f, 0x3f3f3f3f, 0x3f3f3f3f, 0x3f3f3f3f));
        ScaleInspection x = new ScaleInspection();
        Text.append(x, text);
        x.append(0x3f3f3f3f, 0x3f3f3f3f, 0x3f3f3f3f, 0x3f3f3f3f, 0x3f3f3f3f);
        CHECK.due("2: parse(800)", 0, x.parse(800));
        CHECK.due("2: its first statement", 1, x.setCount());
        CHECK.due("2: its last statement", 7, x.massValue(0));
        ScaleInspection y = new ScaleInspection();
        Text.append(y, text.replace(';', '?'));
        CHECK.due("2: the byte at 5", 1, y.parse(800));
        CHECK.due("2: the byte at 5", 5, y.errorPosition());
        Text.append(y, " ".repeat(799) + "?");
        CHECK.due("2: the byte at 799", 1, y.parse(800));
        CHECK.due("2: the byte at 799", 799, y.errorPosition());
    }

    // 3: "length: 0 to the length of the buffer", "INVALID if length is out of range, and then the buffer does not
    // change either."
    private static void lengthOfParse() {
        for (int length : new int[] {-1, 21, 800, 801, MIN, MAX}) {
            unchanged("3: parse(" + length + ") of 20 bytes", -1, x -> x.parse(length));
        }
        ScaleInspection x = new ScaleInspection();
        CHECK.due("3: parse(1) of an empty buffer", -1, x.parse(1));
        CHECK.due("3: parse(-1) of an empty buffer", -1, x.parse(-1));
        CHECK.due("3: parse(0) of an empty buffer", 0, x.parse(0));
        Text.append(x, "mass 8; mass 9;     ");
        CHECK.due("3: parse(21)", -1, x.parse(21));
        CHECK.due("3: parse(20)", 0, x.parse(20));
        CHECK.due("3: what the buffer held", 9, x.massValue(1));
        CHECK.due("3: parse(20) again", -1, x.parse(20));
    }

    // 3: "0 gives the empty market"
    private static void lengthZero() {
        ScaleInspection x = Scene.busy();
        CHECK.due("3: parse(0)", 0, x.parse(0));
        CHECK.due("3: all is as in a new object", Watch.seen(new ScaleInspection()), Watch.seen(x));
        CHECK.due("3: the buffer is empty", 20, x.append(BLANKS, BLANKS, BLANKS, BLANKS, BLANKS));
        ScaleInspection y = new ScaleInspection();
        Text.append(y, "mass 5;");
        CHECK.due("3: parse(1)", 1, y.parse(1));
        CHECK.due("3: the position", 0, y.errorPosition());
    }

    // 3: "Parses the first length bytes of the input buffer as a market."
    private static void bytesBehindTheLength() {
        ScaleInspection x = new ScaleInspection();
        Text.append(x, "mass 1234567;");
        CHECK.due("3: the first six digits", 1, x.parse(11));
        CHECK.due("3: it ends too early", 11, x.errorPosition());
        Text.append(x, "mass 1234567;");
        CHECK.due("3: seven digits", 1, x.parse(12));
        CHECK.due("3: an invalid token", 5, x.errorPosition());
        Text.append(x, "mass 12;mass 0;");
        CHECK.due("3: the first statement", 0, x.parse(8));
        CHECK.due("3: one mass", 1, x.massCount());
        Text.append(x, "mass 12;mass 0;");
        CHECK.due("3: and a byte of the second", 1, x.parse(9));
        CHECK.due("3: which is a word", 8, x.errorPosition());
        CHECK.due("3: the mass stays", 12, x.massValue(0));
    }

    // 3: "On a parse error nothing changes except that the buffer is emptied"
    private static void errorChangesNothing() {
        String[] texts = {"trader;mass 7;set 4;?", "trader;mass 7;set 4;term 0 1;term 0 1;", "mass 7;mass 8;mass 0;",
            "set 3;set 4;set 5;set 6;set 7;", "trader;scale 0 0 1 20;mass 9"};
        int[] codes = {1, 2, 3, 4, 1};
        int[] positions = {20, 34, 19, 24, 28};
        for (int i = 0; i < texts.length; i++) {
            // Both end with the same error, so that errorPosition can be compared too.
            ScaleInspection x = Scene.busy();
            CHECK.due("3: an error at 6", 1, x.parse(6));
            ScaleInspection y = Scene.busy();
            y.parse(6);
            CHECK.due("3: error " + codes[i], codes[i], Text.parse(y, texts[i]));
            CHECK.due("3: its position", positions[i], y.errorPosition());
            CHECK.due("3: no bytes are left", -1, y.parse(1));
            Text.append(y, "trader");
            CHECK.due("3: an error at 6", 1, y.parse(6));
            CHECK.due("3: all is as before error " + codes[i], Watch.walked(x), Watch.walked(y));
        }
    }

    // 3: ".. the buffer is emptied; it is also empty after a success."
    private static void bufferIsEmptyAfterwards() {
        ScaleInspection x = new ScaleInspection();
        Text.append(x, "mass 5;" + " ".repeat(50));
        CHECK.due("3: a success", 0, x.parse(7));
        CHECK.due("3: empty after a success", -1, x.parse(1));
        CHECK.due("3: the next bytes are the first", 20, x.append(BLANKS, BLANKS, BLANKS, BLANKS, BLANKS));
        CHECK.due("3: an error", 1, x.append(0x3f202020, BLANKS, BLANKS, BLANKS, BLANKS) == 40 ? x.parse(21) : 0);
        CHECK.due("3: empty after an error", -1, x.parse(1));
        CHECK.due("3: the next bytes are the first", 20, x.append(BLANKS, BLANKS, BLANKS, BLANKS, BLANKS));
    }

    // 3: "On success it replaces the current market." And: "A successful parse removes all visits, clears the undo
    // history and empties both slots."
    private static void successReplacesAll() {
        String[] texts = {"", "trader;", "mass 500;", "set 3 maybe;", Scene.MARKET};
        for (String text : texts) {
            ScaleInspection x = Scene.busy();
            x.saveSnapshot(1);
            x.parse(-1);
            CHECK.due("3: an error", 1, Text.parse(x, "?"));
            CHECK.due("3: \"" + text + "\" after other calls", 0, Text.parse(x, text));
            ScaleInspection y = Text.market(text);
            CHECK.due("3: \"" + text + "\" leaves nothing of them", Watch.walked(y), Watch.walked(x));
        }
    }

    // 4: "Returns the position of the parse error of the last call of parse that did not return INVALID", "NONE if
    // that call succeeded or there was none."
    private static void positionOfTheLatestParse() {
        ScaleInspection x = new ScaleInspection();
        CHECK.due("4: there was none", NONE, x.errorPosition());
        CHECK.due("4: INVALID", -1, x.parse(1));
        CHECK.due("4: still none", NONE, x.errorPosition());
        Text.parse(x, "mass 5;mass 6");
        CHECK.due("4: an error", 13, x.errorPosition());
        CHECK.due("4: INVALID", -1, x.parse(-1));
        CHECK.due("4: the error of before", 13, x.errorPosition());
        x.append(0x3f000000, 0, 0, 0, 0);
        CHECK.due("4: append does not parse", 13, x.errorPosition());
        CHECK.due("4: INVALID", -1, x.parse(21));
        CHECK.due("4: the error of before", 13, x.errorPosition());
        CHECK.due("4: another error", 1, x.parse(20));
        CHECK.due("4: at position 0", 0, x.errorPosition());
        CHECK.due("4: a success", 0, x.parse(0));
        CHECK.due("4: none", NONE, x.errorPosition());
        CHECK.due("4: INVALID", -1, x.parse(1));
        CHECK.due("4: none still", NONE, x.errorPosition());
        Text.parse(x, " ".repeat(799) + "?");
        CHECK.due("4: the greatest position of a byte", 799, x.errorPosition());
        Text.parse(x, "mass 5" + " ".repeat(794));
        CHECK.due("4: the length of the longest text", 800, x.errorPosition());
    }

    // "Spaces (byte 32) and line feeds (byte 10) separate tokens and are otherwise ignored." "any other byte, is an
    // invalid token that starts at its first byte."
    private static void everyByteBehindANumber() {
        for (int sign = 0; sign < 256; sign++) {
            String text = "mass 5" + (char) sign + ";";
            ScaleInspection x = new ScaleInspection();
            int code = Text.parse(x, text);
            if (sign == ' ' || sign == '\n') {
                CHECK.due("blank " + sign, 0, code);
                CHECK.due("blank " + sign, 5, x.massValue(0));
            } else if (sign >= '0' && sign <= '9') {
                CHECK.due("digit " + sign, 0, code);
                CHECK.due("digit " + sign, 50 + sign - '0', x.massValue(0));
            } else {
                CHECK.due("byte " + sign, 1, code);
                CHECK.due("byte " + sign, sign == ';' ? 7 : 6, x.errorPosition());
            }
        }
    }

    private static void everyByteAtAStatement() {
        for (int sign = 0; sign < 256; sign++) {
            boolean blank = sign == ' ' || sign == '\n';
            ScaleInspection x = new ScaleInspection();
            CHECK.due("byte " + sign + " at first", blank ? 0 : 1, Text.parse(x, (char) sign + "mass 5;"));
            CHECK.due("byte " + sign + " at first", blank ? NONE : 0, x.errorPosition());
            CHECK.due("byte " + sign + " at the end", blank ? 0 : 1, Text.parse(x, "mass 5; " + (char) sign));
            CHECK.due("byte " + sign + " at the end", blank ? NONE : 8, x.errorPosition());
        }
    }

    // "a word (a maximal run of letters a to z ..)": the letters next to a and z, and capital ones, are none.
    private static void everyByteAmongLetters() {
        for (int sign = 0; sign < 256; sign++) {
            boolean blank = sign == ' ' || sign == '\n';
            boolean digit = sign >= '0' && sign <= '9';
            ScaleInspection x = new ScaleInspection();
            int code = Text.parse(x, "set 5" + (char) sign + "maybe;");
            if (blank) {
                CHECK.due("blank " + sign + " before a word", 0, code);
                CHECK.due("blank " + sign + " before a word", 1, x.canBeGenuine(0));
            } else if (digit) {
                CHECK.due("digit " + sign + " before a word", 3, code);
                CHECK.due("digit " + sign + " before a word", 4, x.errorPosition());
            } else {
                CHECK.due("byte " + sign + " before a word", 1, code);
                CHECK.due("byte " + sign + " before a word", sign == ';' ? 6 : 5, x.errorPosition());
            }
        }
    }

    // "1 to 8 letters": a word of the grammar has six at most, so one of eight is not allowed and one of nine is
    // invalid, with one answer for both.
    private static void wordLength() {
        refused("a;", 1, 0);
        refused("tradersa;", 1, 0);
        refused("tradersab;", 1, 0);
        refused("set 5 maybemay;", 1, 6);
        refused("set 5 maybemayb;", 1, 6);
        refused("mass 5 plusplus 1;", 1, 7);
        refused("mass 5 plusplusp 1;", 1, 7);
        refused("trader;" + "z".repeat(700), 1, 7);
        refused("mas 5;", 1, 0);
        refused("masss 5;", 1, 0);
        refused("mass 5 plu 1;", 1, 7);
        refused("mass 5 pluss 1;", 1, 7);
        refused("mass 5 minu 1;", 1, 7);
        refused("mass 5 minuss 1;", 1, 7);
        refused("set 5 mayb;", 1, 6);
        refused("set 5 maybes;", 1, 6);
        refused("term 0 1;ter 1 1;", 1, 9);
        refused("trader;scal 0 0 1 20;", 1, 7);
        refused("trader;scales 0 0 1 20;", 1, 7);
        refused("sets 5;", 1, 0);
        refused("se 5;", 1, 0);
        refused("terms 0 1;", 1, 0);
    }

    // "All items without quotes are numbers", and the others stand as they are: one letter makes another word.
    private static void everyLetterOfAWord() {
        String[] texts = {"trader;", "scale 0 0 1 20;", "mass 5;", "set 5;", "term 0 1;", "mass 5 plus 1;",
            "mass 5 minus 1;", "set 5 maybe;"};
        String[] words = {"trader", "scale", "mass", "set", "term", "plus", "minus", "maybe"};
        for (int i = 0; i < words.length; i++) {
            String text = "trader;" + texts[i];
            int at = text.lastIndexOf(words[i]);
            taken(text);
            for (int letter = 0; letter < words[i].length(); letter++) {
                for (char other = 'a'; other <= 'z'; other++) {
                    if (other != words[i].charAt(letter)) {
                        StringBuilder changed = new StringBuilder(text);
                        changed.setCharAt(at + letter, other);
                        refused(changed.toString(), 1, at);
                    }
                }
            }
        }
    }

    // ".. a maximal run ..": two words or two numbers need a blank between them, a word and a number need none.
    private static void maximalRuns() {
        refused("tradermass 5;", 1, 0);
        refused("trader;scale 0 10 20;", 3, 15);
        refused("set 5maybemaybe;", 1, 5);
        CHECK.due("glued", 10, taken("mass7plus3;").massValue(0));
        CHECK.due("glued", 1, taken("set12maybe;").canBeGenuine(0));
        CHECK.due("in six lines", 20, taken("trader\n;\n\nscale\n0\n 0\n1 \n20;").capacity(0));
    }

    // "a number (a maximal run of digits, 1 to 6 digits)", "A longer run .. is an invalid token"
    private static void numberLength() {
        CHECK.due("one digit", 1, taken("mass 1;").massValue(0));
        CHECK.due("six digits", 1, taken("mass 000001;").massValue(0));
        CHECK.due("six digits", 999999, taken("mass 999999;").massValue(0));
        CHECK.due("six digits", 100000, taken("mass 100000;").massValue(0));
        refused("mass 0000001;", 1, 5);
        refused("mass 1000000;", 1, 5);
        refused("mass 9999999;", 1, 5);
        refused("mass 99999999999999999999;", 1, 5);
        CHECK.due("six digits of a count", 2, taken("set 000002;").weightCount(0));
        refused("set 0000002;", 1, 4);
        CHECK.due("six digits of a correction", 6, taken("mass 5 plus 000001;").massValue(0));
        refused("mass 5 plus 0000001;", 1, 12);
        taken("trader;scale 000000 000002 000001 000020;");
        refused("trader;scale 0000000 0 1 20;", 1, 13);
        refused("trader;scale 0 0000000 1 20;", 1, 15);
        refused("trader;scale 0 0 0000001 20;", 1, 17);
        refused("trader;scale 0 0 1 0000020;", 1, 19);
        taken("term 000000 000005;");
        refused("term 0000000 5;", 1, 5);
        refused("term 0 0000005;", 1, 7);
    }

    // ".. an invalid token that starts at its first byte." "The position of an error is the index of the first byte
    // of its token"
    private static void tokenAtItsFirstByte() {
        refused("  \n  traderssss;", 1, 5);
        refused("mass  \n 12345678;", 1, 8);
        refused("mass 5  \t\t\t;", 1, 8);
        refused("mass  0;", 3, 6);
        refused("trader;scale 0  \n  3 1 20;", 3, 19);
        refused("term 0 1;term\n 0 1;", 2, 15);
        refused("set 5;".repeat(4) + "\n\nset 5;", 4, 26);
    }

    // "Traders, scales, masses and sets are numbered from 0, each kind in the order of its statements."
    private static void numberedInTheirOrder() {
        ScaleInspection x = taken("set 7;mass 30;trader;set 3 maybe;scale 0 2 3 60;mass 10 plus 1;term 2 1;trader;"
                + "scale 1 0 2 41;mass 20 minus 1;set 12;scale 0 1 1 22;trader;scale 2 0 5 100;set 2 maybe;mass 9;");
        int[] traders = {0, 1, 0, 2};
        int[] capacities = {60, 41, 22, 100};
        int[] tolerances = {2, 1, 1, 3};
        int[] values = {30, 11, 19, 9};
        int[] counts = {7, 3, 12, 2};
        for (int number = 0; number < 4; number++) {
            CHECK.due("9: trader(" + number + ")", traders[number], x.trader(number));
            CHECK.due("10: capacity(" + number + ")", capacities[number], x.capacity(number));
            CHECK.due("11: baseTolerance(" + number + ", 0)", tolerances[number], x.baseTolerance(number, 0));
            CHECK.due("12: massValue(" + number + ")", values[number], x.massValue(number));
            CHECK.due("36: weightCount(" + number + ")", counts[number], x.weightCount(number));
            CHECK.due("42: canBeGenuine(" + number + ")", number % 2, x.canBeGenuine(number));
        }
        CHECK.due("5: three traders", 3, x.traderCount());
        CHECK.due("13: masses 1 and 3", 10, x.fewestMasses(20));
    }

    // "There are at most 8 traders, 24 scales, 10 masses and 4 sets." Code 4: "the word .. of a statement beyond a
    // limit."
    private static void limitOfEachKind() {
        CHECK.due("7 traders", 7, taken("trader;".repeat(7)).traderCount());
        CHECK.due("8 traders", 8, taken("trader;".repeat(8)).traderCount());
        refused("trader;".repeat(9), 4, 56);
        String owner = "trader;";
        CHECK.due("23 scales", 23, taken(owner + "scale 0 0 1 20;".repeat(23)).scaleCount());
        CHECK.due("24 scales", 24, taken(owner + "scale 0 0 1 20;".repeat(24)).scaleCount());
        refused(owner + "scale 0 0 1 20;".repeat(25), 4, 367);
        CHECK.due("9 masses", 9, taken("mass 5;".repeat(9)).massCount());
        CHECK.due("10 masses", 10, taken("mass 5;".repeat(10)).massCount());
        refused("mass 5;".repeat(11), 4, 70);
        CHECK.due("3 sets", 3, taken("set 5;".repeat(3)).setCount());
        CHECK.due("4 sets", 4, taken("set 5;".repeat(4)).setCount());
        refused("set 5;".repeat(5), 4, 24);
        // The word is told, not what stands behind it.
        refused("trader;".repeat(8) + "trader 5", 4, 56);
        refused(owner + "scale 0 0 1 20;".repeat(24) + "scale", 4, 367);
        refused("mass 5;".repeat(10) + "mass mass", 4, 70);
        refused("set 5;".repeat(4) + "set 99", 4, 24);
    }

    private static void limitsTogether() {
        ScaleInspection x = taken(FULL_MARKET);
        CHECK.due("5: traders", 8, x.traderCount());
        CHECK.due("6: scales", 24, x.scaleCount());
        CHECK.due("7: masses", 10, x.massCount());
        CHECK.due("8: sets", 4, x.setCount());
        CHECK.due("9: trader(23)", 7, x.trader(23));
        CHECK.due("9: trader(24)", -1, x.trader(24));
        CHECK.due("10: capacity(23)", 20, x.capacity(23));
        CHECK.due("10: capacity(24)", -1, x.capacity(24));
        CHECK.due("12: massValue(9)", 5, x.massValue(9));
        CHECK.due("12: massValue(10)", -1, x.massValue(10));
        CHECK.due("36: weightCount(3)", 5, x.weightCount(3));
        CHECK.due("36: weightCount(4)", -1, x.weightCount(4));
        int at = FULL_MARKET.length();
        refused(FULL_MARKET + "trader;", 4, at);
        refused(FULL_MARKET + "scale 0 0 1 20;", 4, at);
        refused(FULL_MARKET + "mass 5;", 4, at);
        refused(FULL_MARKET + "set 5;", 4, at);
    }

    // No limit is named for terms: the fourth one can only be a second one of its class, or be out of range.
    private static void termHasNoLimit() {
        refused("term 0 1;term 1 1;term 2 1;term 2 1;", 2, 32);
        refused("term 0 1;term 1 1;term 2 1;term 3 1;", 3, 32);
        refused("term 0 1;term 1 1;term 2 1;term;", 1, 31);
    }

    // "trader is the number of a trader that an earlier statement declared."
    private static void rangeOfTrader() {
        refused("scale 0 0 1 20;", 3, 6);
        CHECK.due("the only trader", 0, taken("trader;scale 0 0 1 20;").trader(0));
        refused("trader;scale 1 0 1 20;", 3, 13);
        CHECK.due("the last trader", 7, taken("trader;".repeat(8) + "scale 7 0 1 20;").trader(0));
        refused("trader;".repeat(8) + "scale 8 0 1 20;", 3, 62);
        // A later statement does not help.
        refused("trader;scale 1 0 1 20;trader;", 3, 13);
        CHECK.due("an earlier one does", 1, taken("trader;trader;scale 1 0 1 20;").trader(0));
        refused("trader;scale 999999 0 1 20;", 3, 13);
    }

    // "class is 0 to 2."
    private static void rangeOfClass() {
        taken("trader;scale 0 0 1 20;scale 0 1 1 20;scale 0 2 1 20;term 0 1;term 1 1;term 2 1;");
        refused("trader;scale 0 3 1 20;", 3, 15);
        refused("trader;scale 0 999999 1 20;", 3, 15);
        refused("term 3 1;", 3, 5);
        refused("term 999999 1;", 3, 5);
    }

    // "division is 1 to 1000."
    private static void rangeOfDivision() {
        CHECK.due("division 1", 1, taken("trader;scale 0 0 1 20;").baseTolerance(0, 0));
        CHECK.due("division 1000", 500, taken("trader;scale 0 0 1000 20000;").baseTolerance(0, 0));
        refused("trader;scale 0 0 0 20;", 3, 17);
        refused("trader;scale 0 0 0 0;", 3, 17);
        refused("trader;scale 0 0 1001 20020;", 3, 17);
        refused("trader;scale 0 0 999999 999999;", 3, 17);
    }

    // "capacity is 20 * division to 999999."
    private static void rangeOfCapacity() {
        int[] divisions = {1, 7, 50, 999, 1000};
        for (int division : divisions) {
            String text = "trader;scale 0 0 " + division + " ";
            CHECK.due("the least", 20 * division, taken(text + 20 * division + ";").capacity(0));
            refused(text + (20 * division - 1) + ";", 3, text.length());
            CHECK.due("the greatest", 999999, taken(text + "999999;").capacity(0));
            refused(text + "1000000;", 1, text.length());
        }
        refused("trader;scale 0 0 1 0;", 3, 19);
    }

    // "nominal is 1 to 999999."
    private static void rangeOfNominal() {
        CHECK.due("1", 1, taken("mass 1;").massValue(0));
        CHECK.due("999999", 999999, taken("mass 999999;").massValue(0));
        refused("mass 0;", 3, 5);
        refused("mass 000000;", 3, 5);
        refused("mass 0 plus 5;", 3, 5);
        refused("mass 1000000;", 1, 5);
    }

    // "correction is 0 to 99, and behind minus at most nominal - 1." "The value of a mass is its nominal value plus
    // or minus the correction."
    private static void rangeOfCorrection() {
        String[] good = {"1 plus 0", "1 plus 99", "999999 plus 99", "1 minus 0", "2 minus 1", "50 minus 49",
            "99 minus 98", "100 minus 99", "101 minus 99", "999999 minus 99", "999999 minus 0"};
        int[] values = {1, 100, 1000098, 1, 1, 1, 1, 1, 2, 999900, 999999};
        for (int i = 0; i < good.length; i++) {
            CHECK.due("mass " + good[i], values[i], taken("mass " + good[i] + ";").massValue(0));
        }
        String[] bad = {"1 plus 100", "999999 plus 100", "1 plus 999999", "1 minus 1", "2 minus 2", "50 minus 50",
            "99 minus 99", "100 minus 100", "101 minus 100", "999999 minus 100", "200 minus 199", "1 minus 99"};
        for (String mass : bad) {
            refused("mass " + mass + ";", 3, 5 + mass.lastIndexOf(' ') + 1);
        }
    }

    // "count is 2 to 12."
    private static void rangeOfCount() {
        for (String maybe : new String[] {"", " maybe"}) {
            CHECK.due("2", 2, taken("set 2" + maybe + ";").weightCount(0));
            CHECK.due("12", 12, taken("set 12" + maybe + ";").weightCount(0));
            refused("set 0" + maybe + ";", 3, 4);
            refused("set 1" + maybe + ";", 3, 4);
            refused("set 13" + maybe + ";", 3, 4);
            refused("set 999999" + maybe + ";", 3, 4);
        }
    }

    private static ScaleInspection passedOnDayZero(String terms) {
        ScaleInspection x = taken("trader;scale 0 0 1 20;scale 0 1 1 20;scale 0 2 1 20;mass 10;" + terms);
        for (int scale = 0; scale < 3; scale++) {
            int visit = x.startVisit(scale, 0);
            x.record(visit, 0, 0);
            x.record(visit, 1, 10);
            x.record(visit, 1, 10);
            CHECK.due("28: passed", 0, x.closeVisit(visit));
        }
        return x;
    }

    // "years is 1 to 5."
    private static void rangeOfYears() {
        CHECK.due("31: one year", 360, passedOnDayZero("term 0 1;").expiryDay(0, 0));
        CHECK.due("31: five years", 1800, passedOnDayZero("term 2 5;").expiryDay(2, 0));
        refused("term 0 0;", 3, 7);
        refused("term 0 6;", 3, 7);
        refused("term 0 999999;", 3, 7);
    }

    // Code 2: "the class of a second term statement for this class."
    private static void secondTermOfEachClass() {
        for (int kind = 0; kind < 3; kind++) {
            int other = (kind + 1) % 3;
            String first = "term " + kind + " 1;";
            taken(first + "term " + other + " 1;");
            refused(first + first, 2, 14);
            refused(first + "term " + other + " 2;" + first, 2, 23);
            refused(first + "term " + kind + " 0;", 2, 14);
            refused(first + "term " + kind, 2, 14);
            refused(first + "term " + kind + " ?", 2, 14);
        }
    }

    // "The term of a class is the number of years in its term statement, or 2 if it has none."
    private static void defaultTerm() {
        ScaleInspection x = passedOnDayZero("term 1 3;");
        int[] due = {720, 1080, 720};
        for (int scale = 0; scale < 3; scale++) {
            CHECK.due("31: term of class " + scale, due[scale], x.expiryDay(scale, 0));
        }
        ScaleInspection y = passedOnDayZero("term 0 1;term 2 2;");
        CHECK.due("31: one year", 360, y.expiryDay(0, 0));
        CHECK.due("31: without a statement", 720, y.expiryDay(1, 0));
        CHECK.due("31: two years", 720, y.expiryDay(2, 0));
    }

    // ".. or a text that ends too early." "if the text ends too early, it is the length of the text."
    private static void endsTooEarly() {
        String[] texts = {"trader", "scale", "trader;scale 0", "trader;scale 0 1", "trader;scale 0 1 1",
            "trader;scale 0 1 1 20", "mass", "mass 5", "mass 5 plus", "mass 5 plus 1", "mass 5 minus", "mass 5 minus 1",
            "set", "set 5", "set 5 maybe", "term", "term 0", "term 0 1", "mass 5;mass"};
        for (String text : texts) {
            refused(text, 1, text.length());
            refused(text + " ", 1, text.length() + 1);
            refused(text + "\n \n", 1, text.length() + 3);
        }
        taken("");
        taken(" ");
        taken("mass 5; \n ");
    }

    // "If several codes apply at one position, the smallest is reported."
    private static void smallestCodeAtOnePosition() {
        // A run of seven digits is an invalid token, and stands where a number would be out of range.
        refused("mass 0000000;", 1, 5);
        refused("mass 000000;", 3, 5);
        refused("set 0000001;", 1, 4);
        refused("set 000001;", 3, 4);
        refused("mass 1 minus 0000009;", 1, 13);
        refused("mass 1 minus 000009;", 3, 13);
        refused("trader;scale 9999999 0 1 20;", 1, 13);
        refused("trader;scale 999999 0 1 20;", 3, 13);
        // .. or where the class of a second term stands.
        refused("term 0 1;term 0000000 1;", 1, 14);
        refused("term 0 1;term 000000 1;", 2, 14);
        // .. and a word that is no word of the grammar stands where a limit is reached.
        refused("set 5;".repeat(4) + "sets 5;", 1, 24);
        refused("set 5;".repeat(4) + "set 5;", 4, 24);
    }

    // "The error with the smallest position is reported."
    private static void smallestPosition() {
        refused("trader;scale 5 7 0 0 0", 3, 13);
        refused("trader;scale 0 7 0 0 0", 3, 15);
        refused("trader;scale 0 0 0 0 0", 3, 17);
        refused("trader;scale 0 0 1 0 0", 3, 19);
        refused("trader;scale 0 0 1 20 0", 1, 22);
        refused("mass 0 plus 100;set 1;", 3, 5);
        refused("mass 5 plus 100;set 1;", 3, 12);
        refused("mass 5 plus 10 set 1;", 1, 15);
        refused("term 3 9;term 0 9;", 3, 5);
        refused("term 0 9;term 0 1;", 3, 7);
        refused("set 1 ?", 3, 4);
        refused("set ? 1", 1, 4);
        refused("set 5;".repeat(4) + "set 1;mass 0;", 4, 24);
        refused("mass 0;" + "set 5;".repeat(5), 3, 5);
        refused("term 0 1;term 0 1;mass 0;", 2, 14);
        refused("mass 0;term 0 1;term 0 1;", 3, 5);
    }

    // 5 to 8: the numbers of an empty and of a full market, and what a refused text leaves.
    private static void counts() {
        ScaleInspection x = taken(FULL_MARKET);
        CHECK.due("5: an error", 4, Text.parse(x, FULL_MARKET + "trader;"));
        CHECK.due("5: traders stay", 8, x.traderCount());
        CHECK.due("6: scales stay", 24, x.scaleCount());
        CHECK.due("7: masses stay", 10, x.massCount());
        CHECK.due("8: sets stay", 4, x.setCount());
        CHECK.due("3: parse(0)", 0, x.parse(0));
        CHECK.due("5: no traders", 0, x.traderCount());
        CHECK.due("6: no scales", 0, x.scaleCount());
        CHECK.due("7: no masses", 0, x.massCount());
        CHECK.due("8: no sets", 0, x.setCount());
    }

    // 9 and 10: "INVALID if there is no such scale."
    private static void noSuchScale() {
        for (int scale : new int[] {-1, 2, 3, 24, MIN, MAX}) {
            unchanged("9: trader(" + scale + ") of 2", -1, x -> x.trader(scale));
            unchanged("10: capacity(" + scale + ") of 2", -1, x -> x.capacity(scale));
        }
        ScaleInspection x = Scene.busy();
        CHECK.due("9: trader(0)", 0, x.trader(0));
        CHECK.due("9: trader(1)", 1, x.trader(1));
        CHECK.due("10: capacity(0)", 1000, x.capacity(0));
        CHECK.due("10: capacity(1)", 141, x.capacity(1));
    }

    // 12: "INVALID if there is no such mass."
    private static void noSuchMass() {
        for (int mass : new int[] {-1, 2, 3, 10, MIN, MAX}) {
            unchanged("12: massValue(" + mass + ") of 2", -1, x -> x.massValue(mass));
        }
        ScaleInspection x = Scene.busy();
        CHECK.due("12: massValue(0)", 500, x.massValue(0));
        CHECK.due("12: massValue(1)", 75, x.massValue(1));
    }

    // 11: "load: 0 to the capacity of the scale", "Throws IndexOutOfBoundsException if there is no such scale",
    // "Throws IllegalArgumentException if load is out of range".
    private static void rangeOfLoad() {
        ScaleInspection x = Scene.busy();
        CHECK.due("11: load 0", 5, x.baseTolerance(0, 0));
        CHECK.due("11: the capacity", 5, x.baseTolerance(0, 1000));
        CHECK.due("11: the capacity of the other", 4, x.baseTolerance(1, 141));
        for (int load : new int[] {-1, 142, 1000, MIN, MAX}) {
            Watch.unchangedByThrow(CHECK, "11: baseTolerance(1, " + load + ")", IllegalArgumentException.class,
                    Scene::busy, y -> y.baseTolerance(1, load));
        }
        Watch.unchangedByThrow(CHECK, "11: baseTolerance(0, 1001)", IllegalArgumentException.class, Scene::busy,
                y -> y.baseTolerance(0, 1001));
        for (int scale : new int[] {-1, 2, 24, MIN, MAX}) {
            // Without a scale there is no range that the load could be out of.
            for (int load : new int[] {0, -1, MAX}) {
                Watch.unchangedByThrow(CHECK, "11: baseTolerance(" + scale + ", " + load + ")",
                        IndexOutOfBoundsException.class, Scene::busy, y -> y.baseTolerance(scale, load));
            }
        }
    }

    // "half its division, rounded up, if the load is at most a * division; otherwise its division, if the load is at
    // most b * division; otherwise three halves of its division, rounded up."
    private static void toleranceSteps() {
        int[] a = {5000, 500, 50};
        int[] b = {20000, 2000, 200};
        int[] divisions = {1, 2, 3, 7, 10, 49};
        int[] halves = {1, 1, 2, 4, 5, 25};
        int[] threeHalves = {2, 3, 5, 11, 15, 74};
        for (int kind = 0; kind < 3; kind++) {
            for (int i = 0; i < divisions.length; i++) {
                int division = divisions[i];
                ScaleInspection x = taken("trader;scale 0 " + kind + " " + division + " 999999;");
                String which = "11: class " + kind + ", division " + division;
                CHECK.due(which + ", nothing", halves[i], x.baseTolerance(0, 0));
                CHECK.due(which + ", a", halves[i], x.baseTolerance(0, a[kind] * division));
                CHECK.due(which + ", above a", division, x.baseTolerance(0, a[kind] * division + 1));
                CHECK.due(which + ", b", division, x.baseTolerance(0, b[kind] * division));
                CHECK.due(which + ", above b", threeHalves[i], x.baseTolerance(0, b[kind] * division + 1));
                CHECK.due(which + ", the capacity", threeHalves[i], x.baseTolerance(0, 999999));
            }
        }
        ScaleInspection x = taken("trader;scale 0 2 1000 999999;scale 0 1 999 999999;scale 0 0 199 999999;");
        int[] loads = {50000, 50001, 200000, 200001};
        int[] due = {500, 1000, 1000, 1500};
        for (int i = 0; i < loads.length; i++) {
            CHECK.due("11: division 1000 at " + loads[i], due[i], x.baseTolerance(0, loads[i]));
        }
        CHECK.due("11: 500 * 999", 500, x.baseTolerance(1, 499500));
        CHECK.due("11: above 500 * 999", 999, x.baseTolerance(1, 499501));
        CHECK.due("11: 5000 * 199", 100, x.baseTolerance(2, 995000));
        CHECK.due("11: above 5000 * 199", 199, x.baseTolerance(2, 995001));
    }
}
