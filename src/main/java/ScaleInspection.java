import java.util.Arrays;

/** Simulates the inspection of market scales; ../shared/DOC.md has the promises. */
public final class ScaleInspection {
    public static final int INVALID = -1;
    public static final int NONE = -2;
    public static final int FULL = -3;

    private static final int MAX_TEXT = 800;
    private static final int APPENDED_BYTES = 20;
    private static final int MAX_TRADERS = 8;
    private static final int MAX_SCALES = 24;
    private static final int MAX_MASSES = 10;
    private static final int MAX_SETS = 4;
    private static final int CLASSES = 3;
    private static final int MIN_WEIGHTS = 2;
    private static final int MAX_WEIGHTS = 12;
    private static final int MAX_VISITS = 30;
    private static final int MAX_TESTS = 8;
    private static final int MAX_WEIGHINGS = 20;
    private static final int MAX_UNDO = 12;
    private static final int SLOTS = 2;
    private static final int LAST_DAY = 9999;
    private static final int DAYS_A_YEAR = 360;
    private static final int MAX_READING = 1999999;
    private static final int MAX_SEED = 999999;

    private static final int STATE_NEW = 0;
    private static final int STATE_VALID = 1;
    private static final int STATE_EXPIRED = 2;
    private static final int STATE_REJECTED = 3;

    private static final int BALANCE = 0;
    private static final int LEFT_HEAVIER = 1;
    private static final int RIGHT_HEAVIER = 2;

    private final MarketReader reader = new MarketReader();
    private final LoadFinder loads = new LoadFinder();
    private final VisitBook visits = new VisitBook();
    private final WeightBook weights = new WeightBook();
    private final History history = new History();
    private final Snapshot firstSlot = new Snapshot();
    private final Snapshot secondSlot = new Snapshot();
    private final Survey survey = new Survey();
    private final Solver solver = new Solver();
    // A text that fails to parse must leave the market as it is, so it is read into the draft.
    private Market market = new Market();
    private Market draft = new Market();

    public ScaleInspection() {
    }

    public int append(int a, int b, int c, int d, int e) {
        if (reader.size + APPENDED_BYTES > MAX_TEXT) {
            return FULL;
        }
        reader.addBytes(a);
        reader.addBytes(b);
        reader.addBytes(c);
        reader.addBytes(d);
        reader.addBytes(e);
        return reader.size;
    }

    public int parse(int length) {
        if (length < 0 || length > reader.size) {
            return INVALID;
        }
        int code = reader.readMarket(length, draft);
        reader.size = 0;
        if (code == MarketReader.OK) {
            takeDraft();
        }
        return code;
    }

    private void takeDraft() {
        Market former = market;
        market = draft;
        draft = former;
        loads.learn(market);
        visits.count = 0;
        weights.reset(market);
        history.clear();
        firstSlot.stored = false;
        secondSlot.stored = false;
    }

    public int errorPosition() {
        return reader.errorAt;
    }

    public int traderCount() {
        return market.traders;
    }

    public int scaleCount() {
        return market.scales;
    }

    public int massCount() {
        return market.masses;
    }

    public int setCount() {
        return market.sets;
    }

    public int trader(int scale) {
        return hasScale(scale) ? market.traderOf[scale] : INVALID;
    }

    public int capacity(int scale) {
        return hasScale(scale) ? market.capacityOf[scale] : INVALID;
    }

    public int baseTolerance(int scale, int load) throws IndexOutOfBoundsException, IllegalArgumentException {
        if (!hasScale(scale)) {
            throw new IndexOutOfBoundsException("no such scale");
        }
        if (load < 0 || load > market.capacityOf[scale]) {
            throw new IllegalArgumentException("load out of range");
        }
        return market.toleranceAt(scale, load);
    }

    public int massValue(int mass) {
        return mass >= 0 && mass < market.masses ? market.valueOf[mass] : INVALID;
    }

    public int fewestMasses(int load) {
        return load < 0 ? INVALID : loads.smallestSet(load);
    }

    public int closestLoad(int load) {
        return load < 0 ? INVALID : loads.greatestSumUpTo(load);
    }

    public int twoPans(int goods) {
        return goods < 0 ? INVALID : loads.fewestOnTwoPans(goods);
    }

    public int startVisit(int scale, int day) {
        if (!hasScale(scale) || !isDay(day) || day < visits.lastDayOf(scale)) {
            return INVALID;
        }
        if (visits.hasOpenVisit(scale)) {
            return NONE;
        }
        if (visits.count >= MAX_VISITS) {
            return FULL;
        }
        int visit = visits.addVisit(scale, day);
        history.add(History.START, visit);
        return visit;
    }

    public int visitCount() {
        return visits.count;
    }

    public int visitScale(int visit) {
        return hasVisit(visit) ? visits.scaleOf[visit] : INVALID;
    }

    public int isInService(int visit) {
        return hasVisit(visit) ? visits.serviceOf[visit] : INVALID;
    }

    public int record(int visit, int masses, int reading) {
        if (!hasVisit(visit) || !loads.hasMasses(masses) || reading < -MAX_READING || reading > MAX_READING) {
            return INVALID;
        }
        int load = loads.sumOf[masses];
        if (load > market.capacityOf[visits.scaleOf[visit]]) {
            return INVALID;
        }
        if (!visits.isOpen(visit)) {
            return NONE;
        }
        if (visits.testsOf[visit] >= MAX_TESTS) {
            return FULL;
        }
        history.add(History.RECORD, visit);
        return visits.addTest(visit, masses, load, reading - load);
    }

    public int testCount(int visit) {
        return hasVisit(visit) ? visits.testsOf[visit] : INVALID;
    }

    public int testLoad(int visit, int test) throws IndexOutOfBoundsException {
        if (!hasTest(visit, test)) {
            throw new IndexOutOfBoundsException("no such visit or test");
        }
        return visits.loadOf[visit * MAX_TESTS + test];
    }

    public int testError(int visit, int test) throws IndexOutOfBoundsException {
        if (!hasTest(visit, test)) {
            throw new IndexOutOfBoundsException("no such visit or test");
        }
        return visits.errorOf[visit * MAX_TESTS + test];
    }

    public boolean testPasses(int visit, int test) throws IndexOutOfBoundsException {
        if (!hasTest(visit, test)) {
            throw new IndexOutOfBoundsException("no such visit or test");
        }
        return visits.isWithinTolerance(market, visit, test, 0);
    }

    public int verdict(int visit) {
        return hasVisit(visit) ? visits.judge(market, visit, 0) : INVALID;
    }

    public int adjustment(int visit) throws IndexOutOfBoundsException, IllegalStateException {
        if (!hasVisit(visit)) {
            throw new IndexOutOfBoundsException("no such visit");
        }
        if (visits.testsOf[visit] == 0) {
            throw new IllegalStateException("the visit has no test");
        }
        return visits.middleError(visit);
    }

    public int adjustedVerdict(int visit) {
        return hasVisit(visit) ? visits.judge(market, visit, visits.middleError(visit)) : INVALID;
    }

    public int closeVisit(int visit) {
        if (!hasVisit(visit)) {
            return INVALID;
        }
        if (!visits.isOpen(visit)) {
            return NONE;
        }
        visits.verdictOf[visit] = visits.judge(market, visit, 0);
        history.add(History.CLOSE, visit);
        return visits.verdictOf[visit];
    }

    public int isClosed(int visit) {
        if (!hasVisit(visit)) {
            return INVALID;
        }
        return visits.isOpen(visit) ? 0 : 1;
    }

    public int sealState(int scale, int day) {
        if (!hasScale(scale) || !isDay(day)) {
            return INVALID;
        }
        survey.take(market, visits, day);
        return survey.stateOf[scale];
    }

    public int expiryDay(int scale, int day) {
        if (!hasScale(scale) || !isDay(day)) {
            return INVALID;
        }
        survey.take(market, visits, day);
        return survey.stateOf[scale] == STATE_VALID ? survey.endYearOf[scale] * DAYS_A_YEAR : NONE;
    }

    public int scalesWith(int state, int day) {
        if (state < STATE_NEW || state > STATE_REJECTED || !isDay(day)) {
            return INVALID;
        }
        survey.take(market, visits, day);
        return survey.scalesIn(state);
    }

    public int risk(int scale, int day) {
        if (!hasScale(scale) || !isDay(day)) {
            return INVALID;
        }
        survey.take(market, visits, day);
        return survey.riskOf[scale];
    }

    public int riskiestTrader(int day) {
        if (!isDay(day)) {
            return INVALID;
        }
        if (market.traders == 0) {
            return NONE;
        }
        survey.take(market, visits, day);
        return survey.traderAtMostRisk(market);
    }

    public int lot(int seed, int position, int day) {
        if (seed < 0 || seed > MAX_SEED || position < 0 || !isDay(day)) {
            return INVALID;
        }
        if (position >= market.scales) {
            return NONE;
        }
        survey.take(market, visits, day);
        return survey.draw(seed, position);
    }

    public int weightCount(int set) {
        return hasSet(set) ? market.weightsOf[set] : INVALID;
    }

    public int weigh(int set, int left, int right, int result) {
        if (!hasSet(set) || !isWeighing(market.weightsOf[set], left, right)) {
            return INVALID;
        }
        if (result < BALANCE || result > RIGHT_HEAVIER) {
            return INVALID;
        }
        int heavy = WeightBook.suspectsAfter(weights.heavyOf[set], left, right, result);
        int light = WeightBook.suspectsAfter(weights.lightOf[set], right, left, result);
        int genuine = result == BALANCE ? weights.genuineOf[set] : 0;
        int remaining = Integer.bitCount(heavy) + Integer.bitCount(light) + genuine;
        if (remaining == 0) {
            return NONE;
        }
        if (weights.weighingsOf[set] >= MAX_WEIGHINGS) {
            return FULL;
        }
        history.addWeighing(set, weights);
        weights.put(set, heavy, light, genuine);
        weights.weighingsOf[set]++;
        return remaining;
    }

    public int weighingCount(int set) {
        return hasSet(set) ? weights.weighingsOf[set] : INVALID;
    }

    public int hypothesisCount(int set) {
        return hasSet(set) ? weights.hypothesesOf(set) : INVALID;
    }

    public int heavySuspects(int set) {
        return hasSet(set) ? weights.heavyOf[set] : INVALID;
    }

    public int lightSuspects(int set) {
        return hasSet(set) ? weights.lightOf[set] : INVALID;
    }

    public int canBeGenuine(int set) {
        return hasSet(set) ? weights.genuineOf[set] : INVALID;
    }

    public int finding(int set) {
        return hasSet(set) ? weights.onlyHypothesis(set) : INVALID;
    }

    public int weighingsNeeded(int set) {
        if (!hasSet(set)) {
            return INVALID;
        }
        chooseSet(set);
        return orNone(solver.needed());
    }

    public int bestLeft(int set) {
        if (!hasSet(set)) {
            return INVALID;
        }
        chooseSet(set);
        int best = solver.bestWeighing();
        return best == Solver.NO_WEIGHING ? NONE : Solver.leftPan(best);
    }

    public int bestRight(int set) {
        if (!hasSet(set)) {
            return INVALID;
        }
        chooseSet(set);
        int best = solver.bestWeighing();
        return best == Solver.NO_WEIGHING ? NONE : Solver.rightPan(best);
    }

    public int fewestWeighings(int count, boolean maybe) {
        if (count < MIN_WEIGHTS || count > MAX_WEIGHTS) {
            return INVALID;
        }
        int all = (1 << count) - 1;
        solver.choose(count, all, all, maybe ? 1 : 0);
        return orNone(solver.needed());
    }

    public boolean undo() {
        int change = history.takeLatest();
        if (change == History.NO_CHANGE) {
            return false;
        }
        int subject = history.subjectOf[change];
        switch (history.kindOf[change]) {
            case History.START:
                visits.count = subject;
                break;
            case History.RECORD:
                visits.testsOf[subject]--;
                break;
            case History.CLOSE:
                visits.verdictOf[subject] = VisitBook.STILL_OPEN;
                break;
            default:
                weights.put(subject, history.heavyOf[change], history.lightOf[change], history.genuineOf[change]);
                weights.weighingsOf[subject]--;
                break;
        }
        return true;
    }

    public int undoDepth() {
        return history.depth;
    }

    public boolean saveSnapshot(int slot) {
        if (slot < 0 || slot >= SLOTS) {
            return false;
        }
        slotAt(slot).store(visits, weights);
        return true;
    }

    public boolean restoreSnapshot(int slot) {
        if (slot < 0 || slot >= SLOTS || !slotAt(slot).stored) {
            return false;
        }
        visits.copyFrom(slotAt(slot).visits);
        weights.copyFrom(slotAt(slot).weights);
        history.clear();
        return true;
    }

    private Snapshot slotAt(int slot) {
        return slot == 0 ? firstSlot : secondSlot;
    }

    private boolean hasScale(int scale) {
        return scale >= 0 && scale < market.scales;
    }

    private boolean hasVisit(int visit) {
        return visit >= 0 && visit < visits.count;
    }

    private boolean hasTest(int visit, int test) {
        return hasVisit(visit) && test >= 0 && test < visits.testsOf[visit];
    }

    private boolean hasSet(int set) {
        return set >= 0 && set < market.sets;
    }

    private static boolean isDay(int day) {
        return day >= 0 && day <= LAST_DAY;
    }

    private static boolean isWeighing(int count, int left, int right) {
        boolean known = ((left | right) & -(1 << count)) == 0;
        boolean apart = (left & right) == 0;
        boolean sameSize = Integer.bitCount(left) == Integer.bitCount(right);
        return known && apart && sameSize && left != 0;
    }

    private void chooseSet(int set) {
        solver.choose(market.weightsOf[set], weights.heavyOf[set], weights.lightOf[set], weights.genuineOf[set]);
    }

    private static int orNone(int needed) {
        return needed == Solver.NO_STRATEGY ? NONE : needed;
    }

    /** What a market text declares. */
    private static final class Market {
        private static final int DEFAULT_TERM = 2;

        int traders;
        int scales;
        int masses;
        int sets;
        final int[] traderOf = new int[MAX_SCALES];
        final int[] classOf = new int[MAX_SCALES];
        final int[] divisionOf = new int[MAX_SCALES];
        final int[] capacityOf = new int[MAX_SCALES];
        final int[] valueOf = new int[MAX_MASSES];
        final int[] weightsOf = new int[MAX_SETS];
        final int[] genuineOf = new int[MAX_SETS];
        // 0 stands for a class without a term statement.
        final int[] termOf = new int[CLASSES];

        void clear() {
            traders = 0;
            scales = 0;
            masses = 0;
            sets = 0;
            Arrays.fill(termOf, 0);
        }

        int termOfScale(int scale) {
            int term = termOf[classOf[scale]];
            return term == 0 ? DEFAULT_TERM : term;
        }

        int toleranceAt(int scale, int load) {
            int division = divisionOf[scale];
            if (load <= fineDivisions(classOf[scale]) * division) {
                return (division + 1) / 2;
            }
            if (load <= 4 * fineDivisions(classOf[scale]) * division) {
                return division;
            }
            return (3 * division + 1) / 2;
        }

        // In each class the second limit of the document, b, is four times the first, a.
        private static int fineDivisions(int scaleClass) {
            return scaleClass == 0 ? 5000 : scaleClass == 1 ? 500 : 50;
        }
    }

    /** The input buffer, and the reading of it token by token; the first error stays. */
    private static final class MarketReader {
        static final int OK = 0;
        private static final int SYNTAX = 1;
        private static final int SECOND_TERM = 2;
        private static final int RANGE = 3;
        private static final int LIMIT = 4;

        private static final int END = 0;
        private static final int WORD = 1;
        private static final int NUMBER = 2;
        private static final int SEMICOLON = 3;
        private static final int BAD = 4;

        private static final int MAX_LETTERS = 8;
        private static final int MAX_DIGITS = 6;
        private static final int MAX_MASS = 999999;

        final byte[] text = new byte[MAX_TEXT];
        int size;
        int errorAt = NONE;
        private int code;
        private int end;
        private int start;
        private int next;
        private int kind;

        void addBytes(int four) {
            for (int shift = 24; shift >= 0 && size < MAX_TEXT; shift -= 8) {
                text[size] = (byte) (four >>> shift);
                size++;
            }
        }

        int readMarket(int length, Market into) {
            into.clear();
            code = OK;
            errorAt = NONE;
            end = length;
            next = 0;
            advance();
            // Every statement takes a byte at least.
            for (int i = 0; i < length && kind != END && code == OK; i++) {
                readStatement(into);
            }
            return code;
        }

        private void readStatement(Market into) {
            if (isWord("trader")) {
                takeKeyword(into.traders, MAX_TRADERS);
                into.traders++;
            } else if (isWord("scale")) {
                readScale(into);
            } else if (isWord("mass")) {
                readMass(into);
            } else if (isWord("set")) {
                readSet(into);
            } else if (isWord("term")) {
                readTerm(into);
            } else {
                fail(SYNTAX);
            }
            takeSemicolon();
        }

        private void readScale(Market into) {
            takeKeyword(into.scales, MAX_SCALES);
            int owner = takeNumber(0, into.traders - 1);
            int scaleClass = takeNumber(0, CLASSES - 1);
            int division = takeNumber(1, 1000);
            int most = takeNumber(20 * division, MAX_MASS);
            if (code == OK) {
                into.traderOf[into.scales] = owner;
                into.classOf[into.scales] = scaleClass;
                into.divisionOf[into.scales] = division;
                into.capacityOf[into.scales] = most;
                into.scales++;
            }
        }

        private void readMass(Market into) {
            takeKeyword(into.masses, MAX_MASSES);
            int value = takeNumber(1, MAX_MASS);
            if (code == OK && isWord("plus")) {
                advance();
                value += takeNumber(0, 99);
            } else if (code == OK && isWord("minus")) {
                advance();
                value -= takeNumber(0, Math.min(99, value - 1));
            }
            if (code == OK) {
                into.valueOf[into.masses] = value;
                into.masses++;
            }
        }

        private void readSet(Market into) {
            takeKeyword(into.sets, MAX_SETS);
            int count = takeNumber(MIN_WEIGHTS, MAX_WEIGHTS);
            boolean maybe = code == OK && isWord("maybe");
            if (maybe) {
                advance();
            }
            if (code == OK) {
                into.weightsOf[into.sets] = count;
                into.genuineOf[into.sets] = maybe ? 1 : 0;
                into.sets++;
            }
        }

        private void readTerm(Market into) {
            advance();
            int classAt = start;
            int scaleClass = takeNumber(0, CLASSES - 1);
            if (code == OK && into.termOf[scaleClass] != 0) {
                failAt(SECOND_TERM, classAt);
            }
            int years = takeNumber(1, 5);
            if (code == OK) {
                into.termOf[scaleClass] = years;
            }
        }

        private void takeKeyword(int count, int limit) {
            if (count >= limit) {
                fail(LIMIT);
            } else {
                advance();
            }
        }

        private int takeNumber(int least, int greatest) {
            if (code != OK) {
                return 0;
            }
            if (kind != NUMBER) {
                fail(SYNTAX);
                return 0;
            }
            int number = numberOfToken();
            if (number < least || number > greatest) {
                fail(RANGE);
                return 0;
            }
            advance();
            return number;
        }

        private int numberOfToken() {
            int number = 0;
            for (int i = start; i < next; i++) {
                number = number * 10 + (text[i] - '0');
            }
            return number;
        }

        private void takeSemicolon() {
            if (code != OK) {
                return;
            }
            if (kind == SEMICOLON) {
                advance();
            } else {
                fail(SYNTAX);
            }
        }

        private void fail(int newCode) {
            failAt(newCode, start);
        }

        private void failAt(int newCode, int position) {
            if (code == OK) {
                code = newCode;
                errorAt = position;
            }
        }

        private boolean isWord(String word) {
            if (kind != WORD || next - start != word.length()) {
                return false;
            }
            for (int i = 0; i < word.length(); i++) {
                if (text[start + i] != word.charAt(i)) {
                    return false;
                }
            }
            return true;
        }

        private void advance() {
            while (next < end && (text[next] == ' ' || text[next] == '\n')) {
                next++;
            }
            start = next;
            if (next >= end) {
                kind = END;
                return;
            }
            byte sign = text[next];
            if (sign >= 'a' && sign <= 'z') {
                passRun('a', 'z');
                kind = next - start <= MAX_LETTERS ? WORD : BAD;
            } else if (sign >= '0' && sign <= '9') {
                passRun('0', '9');
                kind = next - start <= MAX_DIGITS ? NUMBER : BAD;
            } else {
                next++;
                kind = sign == ';' ? SEMICOLON : BAD;
            }
        }

        private void passRun(char lowest, char highest) {
            while (next < end && text[next] >= lowest && text[next] <= highest) {
                next++;
            }
        }
    }

    /**
     * The sums that the masses can make on one pan and on two.
     *
     * A way to lay masses onto two pans is a long: the sum of the right pan minus that of the left one above bit 24,
     * then the number of masses, the right set and the left set. Two ways with different masses add up to the way that
     * joins them, and among ways with one difference the best is the lowest.
     */
    private static final class LoadFinder {
        private static final int SUBSETS = 1 << MAX_MASSES;
        private static final int HALF = 5;
        private static final int HALF_WAYS = 243;
        // The steps 128, 64 and so on to 1 reach every place among 243.
        private static final int LONGEST_STEP = 128;
        private static final int DIFFERENCE_AT = 24;
        private static final int COUNT_AT = 20;
        private static final int RIGHT_AT = 10;
        private static final long CHOICE = (1L << DIFFERENCE_AT) - 1;

        // At first there is the empty set alone, and one way, with nothing on the pans.
        final int[] sumOf = new int[SUBSETS];
        private int subsets = 1;
        // Half of the masses is tried against the sorted other half: all ways at once would be 59049.
        private final long[] ways = new long[HALF_WAYS];
        private int wayCount = 1;
        private final long[] sorted = new long[HALF_WAYS];
        private int sortedCount = 1;

        void learn(Market market) {
            subsets = 1;
            sumOf[0] = 0;
            for (int mass = 0; mass < market.masses; mass++) {
                for (int set = 0; set < subsets; set++) {
                    sumOf[subsets + set] = sumOf[set] + market.valueOf[mass];
                }
                subsets *= 2;
            }
            int middle = Math.min(HALF, market.masses);
            listWays(market, middle, market.masses);
            sortWays();
            listWays(market, 0, middle);
        }

        boolean hasMasses(int set) {
            return set >= 0 && set < subsets;
        }

        int smallestSet(int load) {
            int best = NONE;
            int bestCount = MAX_MASSES + 1;
            for (int set = 0; set < subsets; set++) {
                if (sumOf[set] == load && Integer.bitCount(set) < bestCount) {
                    best = set;
                    bestCount = Integer.bitCount(set);
                }
            }
            return best;
        }

        int greatestSumUpTo(int load) {
            int best = 0;
            for (int set = 0; set < subsets; set++) {
                if (sumOf[set] <= load && sumOf[set] > best) {
                    best = sumOf[set];
                }
            }
            return best;
        }

        int fewestOnTwoPans(int goods) {
            long best = CHOICE;
            for (int i = 0; i < wayCount; i++) {
                long rest = goods - (ways[i] >> DIFFERENCE_AT);
                int at = firstNotBelow(rest << DIFFERENCE_AT);
                if (at < sortedCount && sorted[at] >> DIFFERENCE_AT == rest) {
                    best = Math.min(best, (ways[i] + sorted[at]) & CHOICE);
                }
            }
            if (best == CHOICE) {
                return NONE;
            }
            int right = (int) (best >> RIGHT_AT) & (SUBSETS - 1);
            int left = (int) best & (SUBSETS - 1);
            return right + SUBSETS * left;
        }

        private void listWays(Market market, int from, int to) {
            ways[0] = 0;
            wayCount = 1;
            for (int mass = from; mass < to; mass++) {
                long difference = (long) market.valueOf[mass] << DIFFERENCE_AT;
                long onRight = difference + (1L << COUNT_AT) + (1L << (RIGHT_AT + mass));
                long onLeft = -difference + (1L << COUNT_AT) + (1L << mass);
                for (int i = 0; i < wayCount; i++) {
                    ways[wayCount + i] = ways[i] + onRight;
                    ways[2 * wayCount + i] = ways[i] + onLeft;
                }
                wayCount *= 3;
            }
        }

        private void sortWays() {
            sortedCount = 0;
            for (int i = 0; i < wayCount; i++) {
                int at = firstNotBelow(ways[i]);
                System.arraycopy(sorted, at, sorted, at + 1, sortedCount - at);
                sorted[at] = ways[i];
                sortedCount++;
            }
        }

        private int firstNotBelow(long way) {
            int below = 0;
            for (int step = LONGEST_STEP; step > 0; step /= 2) {
                if (below + step <= sortedCount && sorted[below + step - 1] < way) {
                    below += step;
                }
            }
            return below;
        }
    }

    /** All visits with their tests; the tests of visit v stand from v * MAX_TESTS on. */
    private static final class VisitBook {
        static final int STILL_OPEN = -1;
        private static final int NO_EMPTY_TEST = 1;
        private static final int NO_HALF_LOAD = 2;
        private static final int NO_REPEAT = 3;
        private static final int TEST_FAILS = 4;
        private static final int REPEATS_DIFFER = 5;

        int count;
        final int[] scaleOf = new int[MAX_VISITS];
        final int[] dayOf = new int[MAX_VISITS];
        final int[] serviceOf = new int[MAX_VISITS];
        final int[] verdictOf = new int[MAX_VISITS];
        final int[] testsOf = new int[MAX_VISITS];
        final int[] massesOf = new int[MAX_VISITS * MAX_TESTS];
        final int[] loadOf = new int[MAX_VISITS * MAX_TESTS];
        final int[] errorOf = new int[MAX_VISITS * MAX_TESTS];

        void copyFrom(VisitBook other) {
            count = other.count;
            System.arraycopy(other.scaleOf, 0, scaleOf, 0, MAX_VISITS);
            System.arraycopy(other.dayOf, 0, dayOf, 0, MAX_VISITS);
            System.arraycopy(other.serviceOf, 0, serviceOf, 0, MAX_VISITS);
            System.arraycopy(other.verdictOf, 0, verdictOf, 0, MAX_VISITS);
            System.arraycopy(other.testsOf, 0, testsOf, 0, MAX_VISITS);
            System.arraycopy(other.massesOf, 0, massesOf, 0, MAX_VISITS * MAX_TESTS);
            System.arraycopy(other.loadOf, 0, loadOf, 0, MAX_VISITS * MAX_TESTS);
            System.arraycopy(other.errorOf, 0, errorOf, 0, MAX_VISITS * MAX_TESTS);
        }

        boolean isOpen(int visit) {
            return verdictOf[visit] == STILL_OPEN;
        }

        boolean hasOpenVisit(int scale) {
            for (int visit = 0; visit < count; visit++) {
                if (scaleOf[visit] == scale && isOpen(visit)) {
                    return true;
                }
            }
            return false;
        }

        int lastDayOf(int scale) {
            int last = 0;
            for (int visit = 0; visit < count; visit++) {
                if (scaleOf[visit] == scale) {
                    last = Math.max(last, dayOf[visit]);
                }
            }
            return last;
        }

        private boolean hasPassed(int scale) {
            for (int visit = 0; visit < count; visit++) {
                if (scaleOf[visit] == scale && verdictOf[visit] == 0) {
                    return true;
                }
            }
            return false;
        }

        int addVisit(int scale, int day) {
            int visit = count;
            scaleOf[visit] = scale;
            dayOf[visit] = day;
            serviceOf[visit] = hasPassed(scale) ? 1 : 0;
            verdictOf[visit] = STILL_OPEN;
            testsOf[visit] = 0;
            count++;
            return visit;
        }

        int addTest(int visit, int masses, int load, int error) {
            int test = testsOf[visit];
            int at = visit * MAX_TESTS + test;
            massesOf[at] = masses;
            loadOf[at] = load;
            errorOf[at] = error;
            testsOf[visit]++;
            return test;
        }

        private int toleranceOf(Market market, int visit, int test) {
            int base = market.toleranceAt(scaleOf[visit], loadOf[visit * MAX_TESTS + test]);
            return serviceOf[visit] == 1 ? 2 * base : base;
        }

        boolean isWithinTolerance(Market market, int visit, int test, int shift) {
            int error = errorOf[visit * MAX_TESTS + test] - shift;
            return Math.abs(error) <= toleranceOf(market, visit, test);
        }

        int middleError(int visit) {
            if (testsOf[visit] == 0) {
                return 0;
            }
            int at = visit * MAX_TESTS;
            int greatest = errorOf[at];
            int least = errorOf[at];
            for (int test = 1; test < testsOf[visit]; test++) {
                greatest = Math.max(greatest, errorOf[at + test]);
                least = Math.min(least, errorOf[at + test]);
            }
            return Math.floorDiv(greatest + least, 2);
        }

        /** The verdict if shift were subtracted from each reading. */
        int judge(Market market, int visit, int shift) {
            if (!hasEmptyTest(visit)) {
                return NO_EMPTY_TEST;
            }
            if (!reachesHalf(visit, market.capacityOf[scaleOf[visit]])) {
                return NO_HALF_LOAD;
            }
            if (!hasRepeat(visit)) {
                return NO_REPEAT;
            }
            if (!allWithinTolerance(market, visit, shift)) {
                return TEST_FAILS;
            }
            return repeatsAgree(market, visit) ? 0 : REPEATS_DIFFER;
        }

        private boolean hasEmptyTest(int visit) {
            for (int test = 0; test < testsOf[visit]; test++) {
                if (massesOf[visit * MAX_TESTS + test] == 0) {
                    return true;
                }
            }
            return false;
        }

        private boolean reachesHalf(int visit, int most) {
            for (int test = 0; test < testsOf[visit]; test++) {
                if (2 * loadOf[visit * MAX_TESTS + test] >= most) {
                    return true;
                }
            }
            return false;
        }

        private boolean hasRepeat(int visit) {
            int at = visit * MAX_TESTS;
            for (int one = 0; one < testsOf[visit]; one++) {
                for (int other = 0; other < one; other++) {
                    if (massesOf[at + one] != 0 && massesOf[at + one] == massesOf[at + other]) {
                        return true;
                    }
                }
            }
            return false;
        }

        private boolean allWithinTolerance(Market market, int visit, int shift) {
            for (int test = 0; test < testsOf[visit]; test++) {
                if (!isWithinTolerance(market, visit, test, shift)) {
                    return false;
                }
            }
            return true;
        }

        // The document's rule about repeats takes the empty set too. A shift of all readings leaves differences alone.
        private boolean repeatsAgree(Market market, int visit) {
            int at = visit * MAX_TESTS;
            for (int one = 0; one < testsOf[visit]; one++) {
                int tolerance = toleranceOf(market, visit, one);
                for (int other = 0; other < one; other++) {
                    boolean same = massesOf[at + one] == massesOf[at + other];
                    if (same && Math.abs(errorOf[at + one] - errorOf[at + other]) > tolerance) {
                        return false;
                    }
                }
            }
            return true;
        }
    }

    /** Seal states and risks of all scales on one day. */
    private static final class Survey {
        private static final int NO_VISIT = -1;

        final int[] stateOf = new int[MAX_SCALES];
        // The first year in which the seal of a passed last visit is expired.
        final int[] endYearOf = new int[MAX_SCALES];
        final int[] riskOf = new int[MAX_SCALES];
        private final int[] lastOf = new int[MAX_SCALES];
        private final int[] failuresOf = new int[MAX_SCALES];
        private final int[] rejectedOf = new int[MAX_TRADERS];
        private final int[] traderRiskOf = new int[MAX_TRADERS];
        private int scales;

        void take(Market market, VisitBook visits, int day) {
            scales = market.scales;
            Arrays.fill(lastOf, NO_VISIT);
            Arrays.fill(failuresOf, 0);
            Arrays.fill(rejectedOf, 0);
            for (int visit = 0; visit < visits.count; visit++) {
                if (!visits.isOpen(visit) && visits.dayOf[visit] <= day) {
                    int scale = visits.scaleOf[visit];
                    lastOf[scale] = visit;
                    failuresOf[scale] += visits.verdictOf[visit] == 0 ? 0 : 1;
                }
            }
            for (int scale = 0; scale < scales; scale++) {
                findState(market, visits, scale, day);
            }
            for (int scale = 0; scale < scales; scale++) {
                findRisk(market, scale);
            }
        }

        private void findState(Market market, VisitBook visits, int scale, int day) {
            int last = lastOf[scale];
            endYearOf[scale] = 0;
            if (last == NO_VISIT) {
                stateOf[scale] = STATE_NEW;
            } else if (visits.verdictOf[last] != 0) {
                stateOf[scale] = STATE_REJECTED;
                rejectedOf[market.traderOf[scale]]++;
            } else {
                endYearOf[scale] = visits.dayOf[last] / DAYS_A_YEAR + market.termOfScale(scale);
                stateOf[scale] = day / DAYS_A_YEAR < endYearOf[scale] ? STATE_VALID : STATE_EXPIRED;
            }
        }

        private void findRisk(Market market, int scale) {
            int state = stateOf[scale];
            int others = rejectedOf[market.traderOf[scale]] - (state == STATE_REJECTED ? 1 : 0);
            riskOf[scale] = baseRisk(state) + failuresOf[scale] + others;
        }

        private static int baseRisk(int state) {
            switch (state) {
                case STATE_NEW:
                    return 4;
                case STATE_VALID:
                    return 1;
                case STATE_EXPIRED:
                    return 3;
                default:
                    return 6;
            }
        }

        int scalesIn(int state) {
            int found = 0;
            for (int scale = 0; scale < scales; scale++) {
                if (stateOf[scale] == state) {
                    found |= 1 << scale;
                }
            }
            return found;
        }

        int traderAtMostRisk(Market market) {
            Arrays.fill(traderRiskOf, 0);
            for (int scale = 0; scale < scales; scale++) {
                traderRiskOf[market.traderOf[scale]] += riskOf[scale];
            }
            int best = 0;
            for (int owner = 1; owner < market.traders; owner++) {
                if (traderRiskOf[owner] > traderRiskOf[best]) {
                    best = owner;
                }
            }
            return best;
        }

        int draw(int seed, int position) {
            int sum = 0;
            for (int scale = 0; scale < scales; scale++) {
                sum += riskOf[scale];
            }
            long x = seed;
            int drawn = 0;
            int scale = NONE;
            for (int i = 0; i <= position && sum > 0; i++) {
                x = (x * 1103515245L + 12345L) % 2147483648L;
                scale = scaleAt((int) (x / 65536 % sum), drawn);
                if (scale == NONE) {
                    return NONE;
                }
                drawn |= 1 << scale;
                sum -= riskOf[scale];
            }
            return scale;
        }

        private int scaleAt(int r, int drawn) {
            int rest = r;
            for (int scale = 0; scale < scales; scale++) {
                if ((drawn >> scale & 1) == 0) {
                    if (rest < riskOf[scale]) {
                        return scale;
                    }
                    rest -= riskOf[scale];
                }
            }
            return NONE;
        }
    }

    /** The hypotheses that are left for each set, and the number of its weighings. */
    private static final class WeightBook {
        final int[] heavyOf = new int[MAX_SETS];
        final int[] lightOf = new int[MAX_SETS];
        final int[] genuineOf = new int[MAX_SETS];
        final int[] weighingsOf = new int[MAX_SETS];

        void reset(Market market) {
            for (int set = 0; set < market.sets; set++) {
                int all = (1 << market.weightsOf[set]) - 1;
                put(set, all, all, market.genuineOf[set]);
                weighingsOf[set] = 0;
            }
        }

        void copyFrom(WeightBook other) {
            System.arraycopy(other.heavyOf, 0, heavyOf, 0, MAX_SETS);
            System.arraycopy(other.lightOf, 0, lightOf, 0, MAX_SETS);
            System.arraycopy(other.genuineOf, 0, genuineOf, 0, MAX_SETS);
            System.arraycopy(other.weighingsOf, 0, weighingsOf, 0, MAX_SETS);
        }

        void put(int set, int heavy, int light, int genuine) {
            heavyOf[set] = heavy;
            lightOf[set] = light;
            genuineOf[set] = genuine;
        }

        /** For heavy suspects near is the left pan, for light ones the right pan. */
        static int suspectsAfter(int suspects, int near, int far, int result) {
            switch (result) {
                case LEFT_HEAVIER:
                    return suspects & near;
                case RIGHT_HEAVIER:
                    return suspects & far;
                default:
                    return suspects & ~(near | far);
            }
        }

        int hypothesesOf(int set) {
            return Integer.bitCount(heavyOf[set]) + Integer.bitCount(lightOf[set]) + genuineOf[set];
        }

        int onlyHypothesis(int set) {
            if (hypothesesOf(set) != 1) {
                return NONE;
            }
            if (heavyOf[set] != 0) {
                return 1 + 2 * Integer.numberOfTrailingZeros(heavyOf[set]);
            }
            if (lightOf[set] != 0) {
                return 2 + 2 * Integer.numberOfTrailingZeros(lightOf[set]);
            }
            return 0;
        }
    }

    /** The latest changes, in a ring. */
    private static final class History {
        static final int START = 0;
        static final int RECORD = 1;
        static final int CLOSE = 2;
        static final int WEIGH = 3;
        static final int NO_CHANGE = -1;

        int depth;
        private int next;
        final int[] kindOf = new int[MAX_UNDO];
        final int[] subjectOf = new int[MAX_UNDO];
        final int[] heavyOf = new int[MAX_UNDO];
        final int[] lightOf = new int[MAX_UNDO];
        final int[] genuineOf = new int[MAX_UNDO];

        void clear() {
            depth = 0;
            next = 0;
        }

        void add(int kind, int subject) {
            kindOf[next] = kind;
            subjectOf[next] = subject;
            next = (next + 1) % MAX_UNDO;
            depth = Math.min(depth + 1, MAX_UNDO);
        }

        /** To be called before the weighing changes the set. */
        void addWeighing(int set, WeightBook before) {
            heavyOf[next] = before.heavyOf[set];
            lightOf[next] = before.lightOf[set];
            genuineOf[next] = before.genuineOf[set];
            add(WEIGH, set);
        }

        int takeLatest() {
            if (depth == 0) {
                return NO_CHANGE;
            }
            depth--;
            next = (next + MAX_UNDO - 1) % MAX_UNDO;
            return next;
        }
    }

    private static final class Snapshot {
        final VisitBook visits = new VisitBook();
        final WeightBook weights = new WeightBook();
        boolean stored;

        void store(VisitBook currentVisits, WeightBook currentWeights) {
            visits.copyFrom(currentVisits);
            weights.copyFrom(currentWeights);
            stored = true;
        }
    }

    /**
     * Needed and best weighings.
     *
     * Until a weighing is out of balance, each suspect can be both heavier and lighter; from then on, a suspect was on
     * one pan and is either a heavy or a light one, and all cannot be genuine. So the number needed depends only on the
     * number of weights, and either on the number of two-way suspects and the genuine hypothesis ("mixed"), or on the
     * numbers of heavy and of light suspects ("split").
     */
    private static final class Solver {
        static final int NO_STRATEGY = 99;
        // Above every weighing, since a weighing has at most twelve weights above two pans of twelve bits.
        static final int NO_WEIGHING = 1 << 28;
        private static final int SIDE = MAX_WEIGHTS + 1;
        private static final int PAN_BITS = MAX_WEIGHTS;
        private static final int PAN = (1 << PAN_BITS) - 1;

        private final boolean[] ready = new boolean[SIDE];
        private final int[] splitNeeds = new int[SIDE * SIDE * SIDE];
        private final int[] mixedNeeds = new int[SIDE * SIDE * 2];

        // The hypotheses in hand. The first kind are the heavy or the two-way suspects, the second kind the light ones.
        private int count;
        private boolean mixed;
        private int genuine;
        private int first;
        private int second;
        private int firstSet;
        private int secondSet;
        private int clearedSet;

        void choose(int newCount, int heavy, int light, int newGenuine) {
            count = newCount;
            if (!ready[count]) {
                forgetNeeds();
                fillSplitNeeds();
                fillMixedNeeds(0);
                fillMixedNeeds(1);
                ready[count] = true;
            }
            mixed = (heavy & light) != 0;
            genuine = newGenuine;
            firstSet = heavy;
            secondSet = mixed ? 0 : light;
            clearedSet = (1 << count) - 1 & ~(heavy | light);
            first = Integer.bitCount(firstSet);
            second = Integer.bitCount(secondSet);
        }

        int needed() {
            return mixed ? mixedNeeds[mixedAt(first)] : splitNeeds[splitAt(first, second)];
        }

        private void forgetNeeds() {
            for (int i = count * SIDE * SIDE; i < (count + 1) * SIDE * SIDE; i++) {
                splitNeeds[i] = NO_STRATEGY;
            }
            for (int i = count * SIDE * 2; i < (count + 1) * SIDE * 2; i++) {
                mixedNeeds[i] = NO_STRATEGY;
            }
        }

        // Fewer suspects come first, since each weighing that tells something leaves fewer.
        private void fillSplitNeeds() {
            mixed = false;
            genuine = 0;
            for (int suspects = 0; suspects <= count; suspects++) {
                for (int light = 0; 2 * light <= suspects; light++) {
                    first = suspects - light;
                    second = light;
                    int need = suspects <= 1 ? 0 : oneMore(leastWorst());
                    splitNeeds[splitAt(first, second)] = need;
                    splitNeeds[splitAt(second, first)] = need;
                }
            }
        }

        private void fillMixedNeeds(int newGenuine) {
            mixed = true;
            genuine = newGenuine;
            second = 0;
            for (int suspects = 0; suspects <= count; suspects++) {
                first = suspects;
                mixedNeeds[mixedAt(suspects)] = suspects == 0 ? 0 : oneMore(leastWorst());
            }
        }

        private static int oneMore(int need) {
            return need == NO_STRATEGY ? NO_STRATEGY : need + 1;
        }

        private int splitAt(int heavy, int light) {
            return (count * SIDE + heavy) * SIDE + light;
        }

        private int mixedAt(int suspects) {
            return (count * SIDE + suspects) * 2 + genuine;
        }

        // Changing the pans changes no need, so the left pan may take the more of the first kind.
        private int leastWorst() {
            int cleared = count - first - second;
            int least = NO_STRATEGY;
            for (int left1 = 0; left1 <= first; left1++) {
                for (int right1 = 0; right1 <= left1 && left1 + right1 <= first; right1++) {
                    for (int left2 = 0; left2 <= second; left2++) {
                        for (int right2 = 0; left2 + right2 <= second; right2++) {
                            if (Math.abs(left1 + left2 - right1 - right2) <= cleared) {
                                least = Math.min(least, worst(left1, right1, left2, right2));
                            }
                        }
                    }
                }
            }
            return least;
        }

        // A weighing that tells nothing leads back to the hypotheses in hand; while their need is not known,
        // it counts as NO_STRATEGY, and later it is too great to be among the best.
        private int worst(int left1, int right1, int left2, int right2) {
            if (mixed) {
                int balanced = mixedNeeds[mixedAt(first - left1 - right1)];
                return Math.max(balanced, splitNeeds[splitAt(left1, right1)]);
            }
            int balanced = splitNeeds[splitAt(first - left1 - right1, second - left2 - right2)];
            int leftHeavier = splitNeeds[splitAt(left1, right2)];
            int rightHeavier = splitNeeds[splitAt(right1, left2)];
            return Math.max(balanced, Math.max(leftHeavier, rightHeavier));
        }

        /** The best weighing: the number of weights above both pans, then the left pan, then the right pan. */
        int bestWeighing() {
            int need = needed();
            if (need == 0 || need == NO_STRATEGY) {
                return NO_WEIGHING;
            }
            int best = NO_WEIGHING;
            for (int left1 = 0; left1 <= first; left1++) {
                for (int right1 = 0; left1 + right1 <= first; right1++) {
                    for (int left2 = 0; left2 <= second; left2++) {
                        for (int right2 = 0; left2 + right2 <= second; right2++) {
                            if (worst(left1, right1, left2, right2) < need) {
                                best = Math.min(best, lowestWeighing(left1, right1, left2, right2));
                            }
                        }
                    }
                }
            }
            return best;
        }

        static int leftPan(int weighing) {
            return weighing >> PAN_BITS & PAN;
        }

        static int rightPan(int weighing) {
            return weighing & PAN;
        }

        private int lowestWeighing(int left1, int right1, int left2, int right2) {
            int more = left1 + left2 - right1 - right2;
            if (Math.abs(more) > Integer.bitCount(clearedSet)) {
                return NO_WEIGHING;
            }
            int left = lowest(firstSet, left1) | lowest(secondSet, left2) | lowest(clearedSet, Math.max(-more, 0));
            int right = lowest(firstSet & ~left, right1) | lowest(secondSet & ~left, right2)
                    | lowest(clearedSet & ~left, Math.max(more, 0));
            int onPans = 2 * Integer.bitCount(left);
            return (onPans << PAN_BITS | left) << PAN_BITS | right;
        }

        private static int lowest(int set, int size) {
            int rest = set;
            for (int i = 0; i < size; i++) {
                rest &= rest - 1;
            }
            return set & ~rest;
        }
    }
}
