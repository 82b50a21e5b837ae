import java.util.HashMap;
import java.util.Map;

/** Needed and best weighings by trying every pair of pans; only what differs by the names of weights is tried once. */
final class Weighings {
    static final int NEVER = 1000;

    private static final Map<Integer, int[][]> PANS = new HashMap<>();
    private static final Map<Integer, Integer> NEEDED = new HashMap<>();

    private Weighings() {
    }

    /** All pairs of disjoint pans with the same number of weights, at least one. */
    private static int[][] pans(int count) {
        int[][] known = PANS.get(count);
        if (known != null) {
            return known;
        }
        java.util.List<int[]> found = new java.util.ArrayList<>();
        int all = (1 << count) - 1;
        for (int left = 1; left <= all; left++) {
            int rest = all & ~left;
            for (int right = rest; right > 0; right = (right - 1) & rest) {
                if (Integer.bitCount(left) == Integer.bitCount(right)) {
                    found.add(new int[] {left, right});
                }
            }
        }
        int[][] list = found.toArray(new int[0][]);
        PANS.put(count, list);
        return list;
    }

    private static int hypotheses(int heavy, int light, int genuine) {
        return Integer.bitCount(heavy) + Integer.bitCount(light) + genuine;
    }

    static int needed(int count, int heavy, int light, int genuine) {
        if (hypotheses(heavy, light, genuine) <= 1) {
            return 0;
        }
        int both = Integer.bitCount(heavy & light);
        int onlyHeavy = Integer.bitCount(heavy) - both;
        int onlyLight = Integer.bitCount(light) - both;
        int key = (((count * 16 + both) * 16 + onlyHeavy) * 16 + onlyLight) * 2 + genuine;
        Integer known = NEEDED.get(key);
        if (known != null) {
            return known;
        }
        int bothSet = (1 << both) - 1;
        int heavySet = bothSet | ((1 << onlyHeavy) - 1) << both;
        int lightSet = bothSet | ((1 << onlyLight) - 1) << (both + onlyHeavy);
        int least = NEVER;
        for (int[] pair : pans(count)) {
            least = Math.min(least, worst(count, heavySet, lightSet, genuine, pair));
        }
        int need = least == NEVER ? NEVER : 1 + least;
        NEEDED.put(key, need);
        return need;
    }

    /** NEVER for a weighing that tells nothing: it leads back to the same hypotheses. */
    private static int worst(int count, int heavy, int light, int genuine, int[] pair) {
        int left = pair[0];
        int right = pair[1];
        int off = ~(left | right);
        int all = hypotheses(heavy, light, genuine);
        int[][] after = {
            {heavy & off, light & off, genuine},
            {heavy & left, light & right, 0},
            {heavy & right, light & left, 0},
        };
        int worst = 0;
        for (int[] rest : after) {
            if (hypotheses(rest[0], rest[1], rest[2]) == all) {
                return NEVER;
            }
        }
        for (int[] rest : after) {
            worst = Math.max(worst, needed(count, rest[0], rest[1], rest[2]));
        }
        return worst;
    }

    /** The left and the right pan of the best weighing, or null. */
    static int[] best(int count, int heavy, int light, int genuine) {
        int need = needed(count, heavy, light, genuine);
        if (need == 0 || need == NEVER) {
            return null;
        }
        int[] best = null;
        for (int[] pair : pans(count)) {
            if (1 + worst(count, heavy, light, genuine, pair) == need && (best == null || precedes(pair, best))) {
                best = pair;
            }
        }
        return best;
    }

    private static boolean precedes(int[] one, int[] other) {
        int oneSize = Integer.bitCount(one[0]);
        int otherSize = Integer.bitCount(other[0]);
        if (oneSize != otherSize) {
            return oneSize < otherSize;
        }
        return one[0] != other[0] ? one[0] < other[0] : one[1] < other[1];
    }
}
