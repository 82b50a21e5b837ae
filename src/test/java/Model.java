import java.util.ArrayDeque;
import java.util.ArrayList;
import java.util.Deque;
import java.util.HashMap;
import java.util.HashSet;
import java.util.List;
import java.util.Map;
import java.util.Set;
import java.util.TreeSet;

/**
 * The document once more, in its plainest form: everything is counted out, nothing is kept that can be found anew,
 * and undo and snapshots are whole copies. RandomRunsTest compares ScaleInspection with it.
 */
public final class Model {
    private static final int INVALID = -1;
    private static final int NONE = -2;
    private static final int FULL = -3;

    private record Token(char kind, String text, int at) {
    }

    private record Scale(int trader, int kind, int division, int capacity) {
    }

    private record SetOfWeights(int count, boolean maybe) {
    }

    private record Test(int masses, int load, int error) {
    }

    private record Hypothesis(int weight, int sign) {
    }

    private static final class Market {
        int traders;
        final List<Scale> scales = new ArrayList<>();
        final List<Integer> masses = new ArrayList<>();
        final List<SetOfWeights> sets = new ArrayList<>();
        final Map<Integer, Integer> terms = new HashMap<>();
    }

    private static final class Visit {
        int scale;
        int day;
        boolean inService;
        boolean closed;
        List<Test> tests = new ArrayList<>();

        Visit copy() {
            Visit other = new Visit();
            other.scale = scale;
            other.day = day;
            other.inService = inService;
            other.closed = closed;
            other.tests = new ArrayList<>(tests);
            return other;
        }
    }

    private static final class State {
        final List<Visit> visits = new ArrayList<>();
        final List<Set<Hypothesis>> left = new ArrayList<>();
        final List<Integer> weighings = new ArrayList<>();

        State copy() {
            State other = new State();
            for (Visit visit : visits) {
                other.visits.add(visit.copy());
            }
            for (Set<Hypothesis> set : left) {
                other.left.add(new HashSet<>(set));
            }
            other.weighings.addAll(weighings);
            return other;
        }
    }

    private static final class ParseError extends RuntimeException {
        private static final long serialVersionUID = 1;
        final int code;
        final int at;

        ParseError(int code, int at) {
            this.code = code;
            this.at = at;
        }
    }

    private final List<Integer> buffer = new ArrayList<>();
    private Market market = new Market();
    private int errorAt = NONE;
    private State state = new State();
    private final Deque<State> before = new ArrayDeque<>();
    private final State[] slots = new State[2];

    // ---- market

    public int append(int a, int b, int c, int d, int e) {
        if (buffer.size() > 780) {
            return FULL;
        }
        for (int word : new int[] {a, b, c, d, e}) {
            for (int i = 3; i >= 0; i--) {
                buffer.add(word >> 8 * i & 255);
            }
        }
        return buffer.size();
    }

    public int parse(int length) {
        if (length < 0 || length > buffer.size()) {
            return INVALID;
        }
        StringBuilder text = new StringBuilder();
        for (int sign : buffer.subList(0, length)) {
            text.append((char) sign);
        }
        buffer.clear();
        try {
            market = read(text.toString());
        } catch (ParseError error) {
            errorAt = error.at;
            return error.code;
        }
        errorAt = NONE;
        state = new State();
        for (SetOfWeights set : market.sets) {
            Set<Hypothesis> all = new HashSet<>();
            for (int w = 0; w < set.count; w++) {
                all.add(new Hypothesis(w, 1));
                all.add(new Hypothesis(w, -1));
            }
            if (set.maybe) {
                all.add(new Hypothesis(-1, 0));
            }
            state.left.add(all);
            state.weighings.add(0);
        }
        before.clear();
        slots[0] = null;
        slots[1] = null;
        return 0;
    }

    private static String run(String text, int from, String signs) {
        int to = from;
        while (to < text.length() && signs.indexOf(text.charAt(to)) >= 0) {
            to++;
        }
        return text.substring(from, to);
    }

    private static List<Token> tokens(String text) {
        List<Token> found = new ArrayList<>();
        int at = 0;
        while (at < text.length()) {
            String word = run(text, at, "abcdefghijklmnopqrstuvwxyz");
            String number = run(text, at, "0123456789");
            if (text.charAt(at) == ' ' || text.charAt(at) == '\n') {
                at++;
            } else if (!word.isEmpty()) {
                found.add(new Token(word.length() > 8 ? '?' : 'w', word, at));
                at += word.length();
            } else if (!number.isEmpty()) {
                found.add(new Token(number.length() > 6 ? '?' : 'n', number, at));
                at += number.length();
            } else {
                found.add(new Token(text.charAt(at) == ';' ? ';' : '?', "", at));
                at++;
            }
        }
        found.add(new Token('$', "", text.length()));
        return found;
    }

    private static int number(Token token, int least, int greatest) {
        if (token.kind != 'n') {
            throw new ParseError(1, token.at);
        }
        int value = Integer.parseInt(token.text);
        if (value < least || value > greatest) {
            throw new ParseError(3, token.at);
        }
        return value;
    }

    private static void limit(int count, int most, Token token) {
        if (count == most) {
            throw new ParseError(4, token.at);
        }
    }

    private static Market read(String text) {
        Market m = new Market();
        List<Token> tokens = tokens(text);
        int i = 0;
        while (tokens.get(i).kind != '$') {
            Token word = tokens.get(i++);
            switch (word.kind == 'w' ? word.text : "?") {
                case "trader":
                    limit(m.traders, 8, word);
                    m.traders++;
                    break;
                case "scale":
                    limit(m.scales.size(), 24, word);
                    int trader = number(tokens.get(i++), 0, m.traders - 1);
                    int kind = number(tokens.get(i++), 0, 2);
                    int division = number(tokens.get(i++), 1, 1000);
                    m.scales.add(new Scale(trader, kind, division, number(tokens.get(i++), 20 * division, 999999)));
                    break;
                case "mass":
                    limit(m.masses.size(), 10, word);
                    int value = number(tokens.get(i++), 1, 999999);
                    String sign = tokens.get(i).kind == 'w' ? tokens.get(i).text : "";
                    if (sign.equals("plus")) {
                        i++;
                        value += number(tokens.get(i++), 0, 99);
                    } else if (sign.equals("minus")) {
                        i++;
                        value -= number(tokens.get(i++), 0, value - 1 < 99 ? value - 1 : 99);
                    }
                    m.masses.add(value);
                    break;
                case "set":
                    limit(m.sets.size(), 4, word);
                    int count = number(tokens.get(i++), 2, 12);
                    boolean maybe = tokens.get(i).kind == 'w' && tokens.get(i).text.equals("maybe");
                    i += maybe ? 1 : 0;
                    m.sets.add(new SetOfWeights(count, maybe));
                    break;
                case "term":
                    Token which = tokens.get(i++);
                    int scaleClass = number(which, 0, 2);
                    if (m.terms.containsKey(scaleClass)) {
                        throw new ParseError(2, which.at);
                    }
                    m.terms.put(scaleClass, number(tokens.get(i++), 1, 5));
                    break;
                default:
                    throw new ParseError(1, word.at);
            }
            if (tokens.get(i).kind != ';') {
                throw new ParseError(1, tokens.get(i).at);
            }
            i++;
        }
        return m;
    }

    public int errorPosition() {
        return errorAt;
    }

    public int traderCount() {
        return market.traders;
    }

    public int scaleCount() {
        return market.scales.size();
    }

    public int massCount() {
        return market.masses.size();
    }

    public int setCount() {
        return market.sets.size();
    }

    private static boolean in(int k, List<?> list) {
        return k >= 0 && k < list.size();
    }

    public int trader(int scale) {
        return in(scale, market.scales) ? market.scales.get(scale).trader : INVALID;
    }

    public int capacity(int scale) {
        return in(scale, market.scales) ? market.scales.get(scale).capacity : INVALID;
    }

    public int baseTolerance(int scale, int load) {
        if (!in(scale, market.scales)) {
            throw new IndexOutOfBoundsException();
        }
        if (load < 0 || load > capacity(scale)) {
            throw new IllegalArgumentException();
        }
        int division = market.scales.get(scale).division;
        int kind = market.scales.get(scale).kind;
        int a = new int[] {5000, 500, 50}[kind];
        int b = new int[] {20000, 2000, 200}[kind];
        int halves = load <= a * division ? 1 : load <= b * division ? 2 : 3;
        return halves * division / 2 + halves * division % 2;
    }

    public int massValue(int mass) {
        return in(mass, market.masses) ? market.masses.get(mass) : INVALID;
    }

    // ---- loads

    private int subsets() {
        return 1 << market.masses.size();
    }

    private int sum(int set) {
        int sum = 0;
        for (int k = 0; k < market.masses.size(); k++) {
            sum += (set >> k & 1) * market.masses.get(k);
        }
        return sum;
    }

    public int fewestMasses(int load) {
        if (load < 0) {
            return INVALID;
        }
        for (int size = 0; size <= market.masses.size(); size++) {
            for (int set = 0; set < subsets(); set++) {
                if (Integer.bitCount(set) == size && sum(set) == load) {
                    return set;
                }
            }
        }
        return NONE;
    }

    public int closestLoad(int load) {
        if (load < 0) {
            return INVALID;
        }
        TreeSet<Integer> sums = new TreeSet<>();
        for (int set = 0; set < subsets(); set++) {
            sums.add(sum(set));
        }
        return sums.floor(load);
    }

    public int twoPans(int goods) {
        if (goods < 0) {
            return INVALID;
        }
        int[] sums = new int[subsets()];
        for (int set = 0; set < subsets(); set++) {
            sums[set] = sum(set);
        }
        int fewest = 99;
        int best = NONE;
        for (int right = 0; right < subsets(); right++) {
            for (int left = 0; left < subsets(); left++) {
                int size = Integer.bitCount(left) + Integer.bitCount(right);
                if ((left & right) == 0 && sums[right] - sums[left] == goods && size < fewest) {
                    fewest = size;
                    best = right + 1024 * left;
                }
            }
        }
        return best;
    }

    // ---- visits

    private void remember() {
        before.push(state.copy());
        if (before.size() > 12) {
            before.removeLast();
        }
    }

    private List<Visit> visitsOf(int scale) {
        List<Visit> found = new ArrayList<>();
        for (Visit visit : state.visits) {
            if (visit.scale == scale) {
                found.add(visit);
            }
        }
        return found;
    }

    public int startVisit(int scale, int day) {
        if (!in(scale, market.scales) || day < 0 || day > 9999) {
            return INVALID;
        }
        boolean open = false;
        boolean passed = false;
        for (Visit visit : visitsOf(scale)) {
            if (day < visit.day) {
                return INVALID;
            }
            open |= !visit.closed;
            passed |= visit.closed && judge(visit, 0) == 0;
        }
        if (open) {
            return NONE;
        }
        if (state.visits.size() == 30) {
            return FULL;
        }
        remember();
        Visit visit = new Visit();
        visit.scale = scale;
        visit.day = day;
        visit.inService = passed;
        state.visits.add(visit);
        return state.visits.size() - 1;
    }

    public int visitCount() {
        return state.visits.size();
    }

    public int visitScale(int visit) {
        return in(visit, state.visits) ? state.visits.get(visit).scale : INVALID;
    }

    public int isInService(int visit) {
        return in(visit, state.visits) ? (state.visits.get(visit).inService ? 1 : 0) : INVALID;
    }

    public int record(int visit, int masses, int reading) {
        if (!in(visit, state.visits) || masses < 0 || masses >= subsets()) {
            return INVALID;
        }
        if (sum(masses) > capacity(visitScale(visit)) || reading < -1999999 || reading > 1999999) {
            return INVALID;
        }
        if (state.visits.get(visit).closed) {
            return NONE;
        }
        if (testCount(visit) == 8) {
            return FULL;
        }
        remember();
        state.visits.get(visit).tests.add(new Test(masses, sum(masses), reading - sum(masses)));
        return testCount(visit) - 1;
    }

    public int testCount(int visit) {
        return in(visit, state.visits) ? state.visits.get(visit).tests.size() : INVALID;
    }

    private Test test(int visit, int test) {
        if (!in(visit, state.visits) || !in(test, state.visits.get(visit).tests)) {
            throw new IndexOutOfBoundsException();
        }
        return state.visits.get(visit).tests.get(test);
    }

    public int testLoad(int visit, int test) {
        return test(visit, test).load;
    }

    public int testError(int visit, int test) {
        return test(visit, test).error;
    }

    private int tolerance(Visit visit, int load) {
        return baseTolerance(visit.scale, load) * (visit.inService ? 2 : 1);
    }

    public boolean testPasses(int visit, int test) {
        Test found = test(visit, test);
        return Math.abs(found.error) <= tolerance(state.visits.get(visit), found.load);
    }

    private int judge(Visit visit, int shift) {
        boolean empty = false;
        boolean half = false;
        boolean repeat = false;
        boolean fails = false;
        boolean differ = false;
        for (int i = 0; i < visit.tests.size(); i++) {
            Test one = visit.tests.get(i);
            int tolerance = tolerance(visit, one.load);
            empty |= one.masses == 0;
            half |= 2 * one.load >= capacity(visit.scale);
            fails |= Math.abs(one.error - shift) > tolerance;
            for (int j = 0; j < visit.tests.size(); j++) {
                Test other = visit.tests.get(j);
                boolean same = i != j && one.masses == other.masses;
                repeat |= same && one.masses != 0;
                differ |= same && one.error - other.error > tolerance;
            }
        }
        return !empty ? 1 : !half ? 2 : !repeat ? 3 : fails ? 4 : differ ? 5 : 0;
    }

    public int verdict(int visit) {
        return in(visit, state.visits) ? judge(state.visits.get(visit), 0) : INVALID;
    }

    public int adjustment(int visit) {
        if (!in(visit, state.visits)) {
            throw new IndexOutOfBoundsException();
        }
        TreeSet<Integer> errors = new TreeSet<>();
        for (Test test : state.visits.get(visit).tests) {
            errors.add(test.error);
        }
        if (errors.isEmpty()) {
            throw new IllegalStateException();
        }
        int sum = errors.first() + errors.last();
        return sum % 2 == 0 ? sum / 2 : (sum - 1) / 2;
    }

    public int adjustedVerdict(int visit) {
        if (!in(visit, state.visits)) {
            return INVALID;
        }
        return testCount(visit) == 0 ? 1 : judge(state.visits.get(visit), adjustment(visit));
    }

    public int closeVisit(int visit) {
        if (!in(visit, state.visits)) {
            return INVALID;
        }
        if (state.visits.get(visit).closed) {
            return NONE;
        }
        remember();
        state.visits.get(visit).closed = true;
        return verdict(visit);
    }

    public int isClosed(int visit) {
        return in(visit, state.visits) ? (state.visits.get(visit).closed ? 1 : 0) : INVALID;
    }

    // ---- seals, risk and lots

    private static boolean isDay(int day) {
        return day >= 0 && day <= 9999;
    }

    private Visit lastClosed(int scale, int day) {
        Visit last = null;
        for (Visit visit : visitsOf(scale)) {
            if (visit.closed && visit.day <= day) {
                last = visit;
            }
        }
        return last;
    }

    private int endYear(int scale, Visit last) {
        return last.day / 360 + market.terms.getOrDefault(market.scales.get(scale).kind, 2);
    }

    public int sealState(int scale, int day) {
        if (!in(scale, market.scales) || !isDay(day)) {
            return INVALID;
        }
        Visit last = lastClosed(scale, day);
        if (last == null) {
            return 0;
        }
        if (judge(last, 0) != 0) {
            return 3;
        }
        return day / 360 < endYear(scale, last) ? 1 : 2;
    }

    public int expiryDay(int scale, int day) {
        int seal = sealState(scale, day);
        if (seal != 1) {
            return seal == INVALID ? INVALID : NONE;
        }
        int year = endYear(scale, lastClosed(scale, day));
        int first = 0;
        while (first / 360 < year) {
            first++;
        }
        return first;
    }

    public int scalesWith(int seal, int day) {
        if (seal < 0 || seal > 3 || !isDay(day)) {
            return INVALID;
        }
        int found = 0;
        for (int scale = 0; scale < market.scales.size(); scale++) {
            found += sealState(scale, day) == seal ? 1 << scale : 0;
        }
        return found;
    }

    public int risk(int scale, int day) {
        if (!in(scale, market.scales) || !isDay(day)) {
            return INVALID;
        }
        int risk = new int[] {4, 1, 3, 6}[sealState(scale, day)];
        for (Visit visit : visitsOf(scale)) {
            risk += visit.closed && visit.day <= day && judge(visit, 0) != 0 ? 1 : 0;
        }
        for (int other = 0; other < market.scales.size(); other++) {
            boolean near = other != scale && trader(other) == trader(scale);
            risk += near && sealState(other, day) == 3 ? 1 : 0;
        }
        return risk;
    }

    public int riskiestTrader(int day) {
        if (!isDay(day)) {
            return INVALID;
        }
        int best = NONE;
        int most = -1;
        for (int trader = 0; trader < market.traders; trader++) {
            int sum = 0;
            for (int scale = 0; scale < market.scales.size(); scale++) {
                sum += trader(scale) == trader ? risk(scale, day) : 0;
            }
            if (sum > most) {
                most = sum;
                best = trader;
            }
        }
        return best;
    }

    public int lot(int seed, int position, int day) {
        if (seed < 0 || seed > 999999 || position < 0 || !isDay(day)) {
            return INVALID;
        }
        if (position >= market.scales.size()) {
            return NONE;
        }
        List<Integer> left = new ArrayList<>();
        for (int scale = 0; scale < market.scales.size(); scale++) {
            left.add(scale);
        }
        long x = seed;
        for (int i = 0;; i++) {
            x = Math.floorMod(x * 1103515245L + 12345L, 1L << 31);
            int sum = 0;
            for (int scale : left) {
                sum += risk(scale, day);
            }
            long r = x / 65536 % sum;
            int place = 0;
            while (r >= risk(left.get(place), day)) {
                r -= risk(left.get(place), day);
                place++;
            }
            int drawn = left.remove(place);
            if (i == position) {
                return drawn;
            }
        }
    }

    // ---- counterfeit weights

    public int weightCount(int set) {
        return in(set, market.sets) ? market.sets.get(set).count : INVALID;
    }

    private static int result(Hypothesis h, int left, int right) {
        if (h.sign == 0 || ((left | right) >> h.weight & 1) == 0) {
            return 0;
        }
        boolean onLeft = (left >> h.weight & 1) == 1;
        return onLeft == (h.sign == 1) ? 1 : 2;
    }

    public int weigh(int set, int left, int right, int result) {
        if (!in(set, market.sets) || result < 0 || result > 2 || left <= 0 || right <= 0 || (left & right) != 0) {
            return INVALID;
        }
        int end = 1 << weightCount(set);
        if (left >= end || right >= end || Integer.bitCount(left) != Integer.bitCount(right)) {
            return INVALID;
        }
        Set<Hypothesis> rest = new HashSet<>();
        for (Hypothesis h : state.left.get(set)) {
            if (result(h, left, right) == result) {
                rest.add(h);
            }
        }
        if (rest.isEmpty()) {
            return NONE;
        }
        if (weighingCount(set) == 20) {
            return FULL;
        }
        remember();
        state.left.set(set, rest);
        state.weighings.set(set, state.weighings.get(set) + 1);
        return rest.size();
    }

    public int weighingCount(int set) {
        return in(set, market.sets) ? state.weighings.get(set) : INVALID;
    }

    public int hypothesisCount(int set) {
        return in(set, market.sets) ? state.left.get(set).size() : INVALID;
    }

    private int suspects(int set, int sign) {
        if (!in(set, market.sets)) {
            return INVALID;
        }
        int found = 0;
        for (Hypothesis h : state.left.get(set)) {
            found |= h.sign == sign ? 1 << h.weight : 0;
        }
        return found;
    }

    public int heavySuspects(int set) {
        return suspects(set, 1);
    }

    public int lightSuspects(int set) {
        return suspects(set, -1);
    }

    public int canBeGenuine(int set) {
        if (!in(set, market.sets)) {
            return INVALID;
        }
        return state.left.get(set).contains(new Hypothesis(-1, 0)) ? 1 : 0;
    }

    public int finding(int set) {
        if (!in(set, market.sets)) {
            return INVALID;
        }
        if (state.left.get(set).size() != 1) {
            return NONE;
        }
        Hypothesis h = state.left.get(set).iterator().next();
        return h.sign == 0 ? 0 : h.sign == 1 ? 1 + 2 * h.weight : 2 + 2 * h.weight;
    }

    public int weighingsNeeded(int set) {
        if (!in(set, market.sets)) {
            return INVALID;
        }
        return orNone(Weighings.needed(weightCount(set), heavySuspects(set), lightSuspects(set), canBeGenuine(set)));
    }

    private static int orNone(int needed) {
        return needed == Weighings.NEVER ? NONE : needed;
    }

    private int best(int set, int pan) {
        if (!in(set, market.sets)) {
            return INVALID;
        }
        int[] pans = Weighings.best(weightCount(set), heavySuspects(set), lightSuspects(set), canBeGenuine(set));
        return pans == null ? NONE : pans[pan];
    }

    public int bestLeft(int set) {
        return best(set, 0);
    }

    public int bestRight(int set) {
        return best(set, 1);
    }

    public int fewestWeighings(int count, boolean maybe) {
        if (count < 2 || count > 12) {
            return INVALID;
        }
        int all = (1 << count) - 1;
        return orNone(Weighings.needed(count, all, all, maybe ? 1 : 0));
    }

    // ---- changes

    public boolean undo() {
        if (before.isEmpty()) {
            return false;
        }
        state = before.pop();
        return true;
    }

    public int undoDepth() {
        return before.size();
    }

    public boolean saveSnapshot(int slot) {
        if (slot != 0 && slot != 1) {
            return false;
        }
        slots[slot] = state.copy();
        return true;
    }

    public boolean restoreSnapshot(int slot) {
        if (slot != 0 && slot != 1 || slots[slot] == null) {
            return false;
        }
        state = slots[slot].copy();
        before.clear();
        return true;
    }
}
