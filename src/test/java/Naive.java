import java.math.BigInteger;
import java.util.ArrayList;
import java.util.Arrays;
import java.util.Collections;
import java.util.HashMap;
import java.util.List;
import java.util.Map;
import java.util.TreeMap;

/** What the document's terms say, each found in the most plain way, however long that takes. */
final class Naive {
    static final int STEWARD = 0;
    static final int BANKER = 1;
    static final int MISER = 2;
    static final int GIVER = 3;

    /** Heaps from the greatest on, and what is held. */
    record State(List<Integer> heaps, int held) {
        int stones() {
            return sum(heaps) + held;
        }
    }

    private static final Map<List<Integer>, BigInteger> ORDERS = new HashMap<>();
    private static final Map<List<Integer>, Boolean> WINS = new HashMap<>();
    private static final Map<Integer, List<List<Integer>>> PARTITIONS = new HashMap<>();

    private Naive() {
    }

    static int sum(List<Integer> heaps) {
        int sum = 0;
        for (int height : heaps) {
            sum += height;
        }
        return sum;
    }

    /** In order, those of no stones left out. */
    static List<Integer> sorted(List<Integer> heaps) {
        List<Integer> all = new ArrayList<>(heaps);
        all.removeIf(height -> height == 0);
        all.sort(Collections.reverseOrder());
        return all;
    }

    static State night(State state, int law, int hold) {
        List<Integer> heaps = new ArrayList<>(state.heaps());
        int held = state.held();
        if (heaps.isEmpty()) {
            return state;
        }
        if (law == STEWARD || law == BANKER) {
            int taken = heaps.size();
            heaps.replaceAll(height -> height - 1);
            if (law == STEWARD) {
                heaps.add(taken);
            } else {
                held += taken;
                for (; held >= hold; held -= hold) {
                    heaps.add(hold);
                }
            }
        } else if (law == MISER) {
            TreeMap<Integer, Integer> byHeight = new TreeMap<>();
            for (int height : heaps) {
                byHeight.merge(height, 1, Integer::sum);
            }
            List<Integer> heights = new ArrayList<>(byHeight.keySet());
            for (int height : heights) {
                byHeight.merge(height, -1, Integer::sum);
                byHeight.merge(height - 1, 1, Integer::sum);
            }
            heaps.clear();
            byHeight.forEach((height, many) -> heaps.addAll(Collections.nCopies(many, height)));
            heaps.add(heights.size());
        } else {
            int left = heaps.remove(0);
            for (int i = 0; i < heaps.size() && left > 0; i++, left--) {
                heaps.set(i, heaps.get(i) + 1);
            }
            heaps.addAll(Collections.nCopies(left, 1));
        }
        return new State(sorted(heaps), held);
    }

    static State nights(State state, int law, int hold, int n) {
        for (int i = 0; i < n; i++) {
            state = night(state, law, hold);
        }
        return state;
    }

    /** The first night whose state comes again by night 400, and behind how many nights; -2, -2. */
    static int[] settleAndRound(State state, int law, int hold) {
        Map<State, Integer> met = new HashMap<>();
        for (int n = 0; n <= 400; n++) {
            Integer first = met.putIfAbsent(state, n);
            if (first != null) {
                return new int[] {first, n - first};
            }
            state = night(state, law, hold);
        }
        return new int[] {-2, -2};
    }

    static int fewest(State state, int law, int hold) {
        int best = 0;
        int least = Integer.MAX_VALUE;
        for (int n = 0; n <= 400; n++) {
            if (state.heaps().size() < least) {
                least = state.heaps().size();
                best = n;
            }
            state = night(state, law, hold);
        }
        return best;
    }

    static int alike(State one, int law, State other, int otherLaw, int hold) {
        for (int n = 0; n <= 400; n++) {
            if (one.heaps().equals(other.heaps())) {
                return n;
            }
            one = night(one, law, hold);
            other = night(other, otherLaw, hold);
        }
        return -2;
    }

    static boolean isStone(List<Integer> heaps, int i, int j) {
        return i >= 0 && j >= 0 && i < heaps.size() && j < heaps.get(i);
    }

    static int column(List<Integer> heaps, int j) {
        return (int) heaps.stream().filter(height -> height > j).count();
    }

    static int square(List<Integer> heaps) {
        int longest = 0;
        for (int side = 1; side <= 60; side++) {
            boolean whole = true;
            for (int i = 0; i < side; i++) {
                for (int j = 0; j < side; j++) {
                    whole &= isStone(heaps, i, j);
                }
            }
            longest = whole ? side : longest;
        }
        return longest;
    }

    static int hook(List<Integer> heaps, int i, int j) {
        int many = 1;
        for (int right = j + 1; isStone(heaps, i, right); right++) {
            many++;
        }
        for (int below = i + 1; isStone(heaps, below, j); below++) {
            many++;
        }
        return many;
    }

    /** Takes each stone that may be taken next, and counts on. */
    static BigInteger orders(List<Integer> heaps) {
        if (heaps.isEmpty()) {
            return BigInteger.ONE;
        }
        BigInteger known = ORDERS.get(heaps);
        if (known != null) {
            return known;
        }
        BigInteger sum = BigInteger.ZERO;
        for (int i = 0; i < heaps.size(); i++) {
            if (i + 1 == heaps.size() || heaps.get(i) > heaps.get(i + 1)) {
                List<Integer> left = new ArrayList<>(heaps);
                left.set(i, heaps.get(i) - 1);
                sum = sum.add(orders(sorted(left)));
            }
        }
        ORDERS.put(heaps, sum);
        return sum;
    }

    static int common(List<Integer> one, List<Integer> other) {
        int many = 0;
        for (int i = 0; i < 60; i++) {
            for (int j = 0; j < 60; j++) {
                many += isStone(one, i, j) && isStone(other, i, j) ? 1 : 0;
            }
        }
        return many;
    }

    static boolean mirrors(List<Integer> one, List<Integer> other) {
        List<Integer> columns = new ArrayList<>();
        for (int j = 0; column(one, j) > 0; j++) {
            columns.add(column(one, j));
        }
        return columns.equals(other);
    }

    /** All ways in which stones lie in heaps. */
    static List<List<Integer>> partitions(int stones) {
        List<List<Integer>> known = PARTITIONS.get(stones);
        if (known == null) {
            known = new ArrayList<>();
            collect(stones, stones, new ArrayList<>(), known);
            PARTITIONS.put(stones, known);
        }
        return known;
    }

    private static void collect(int stones, int highest, List<Integer> ahead, List<List<Integer>> into) {
        if (stones == 0) {
            into.add(new ArrayList<>(ahead));
            return;
        }
        for (int height = Math.min(stones, highest); height > 0; height--) {
            ahead.add(height);
            collect(stones - height, height, ahead, into);
            ahead.remove(ahead.size() - 1);
        }
    }

    /** All heaps from which a steward's night leads here, by the height of the heap that is new (as many as there were). */
    static List<List<Integer>> sources(List<Integer> heaps) {
        List<List<Integer>> found = new ArrayList<>();
        for (List<Integer> before : partitions(sum(heaps))) {
            if (night(new State(before, 0), STEWARD, 2).heaps().equals(heaps)) {
                found.add(before);
            }
        }
        found.sort((one, other) -> other.size() - one.size());
        return found;
    }

    /** Whether who begins wins, by all that he may eat. */
    static boolean wins(List<Integer> heaps) {
        Boolean known = WINS.get(heaps);
        if (known == null) {
            known = firstBite(heaps) != null;
            WINS.put(heaps, known);
        }
        return known;
    }

    /** The first heap, and the fewest of it, by which the other one loses; null without. */
    static int[] firstBite(List<Integer> heaps) {
        for (int i = 0; i < heaps.size(); i++) {
            for (int bite = 1; bite <= Math.min(3, heaps.get(i)); bite++) {
                List<Integer> left = new ArrayList<>(heaps);
                left.set(i, heaps.get(i) - bite);
                if (!wins(sorted(left))) {
                    return new int[] {i, bite};
                }
            }
        }
        return null;
    }

    /** The least sum, by all pairs that may be joined first. */
    static int carry(List<Integer> heaps) {
        if (heaps.size() < 2) {
            return 0;
        }
        int least = Integer.MAX_VALUE;
        for (int i = 0; i < heaps.size(); i++) {
            for (int j = 0; j < i; j++) {
                List<Integer> left = new ArrayList<>(heaps);
                int both = left.remove(i) + left.remove(j);
                left.add(both);
                least = Math.min(least, both + carry(left));
            }
        }
        return least;
    }

    /** One stone at a time from the greatest to the least heap. */
    static int level(List<Integer> heaps) {
        if (heaps.isEmpty()) {
            return 0;
        }
        List<Integer> left = new ArrayList<>(heaps);
        int laid = 0;
        while (Collections.max(left) - Collections.min(left) > 1) {
            int from = left.indexOf(Collections.max(left));
            int to = left.indexOf(Collections.min(left));
            left.set(from, left.get(from) - 1);
            left.set(to, left.get(to) + 1);
            laid++;
        }
        return laid;
    }

    /** By all sets of heaps: the fewest that make so many stones; -2. */
    static int makes(List<Integer> heaps, int stones) {
        int fewest = -2;
        for (int set = 0; set < 1 << heaps.size(); set++) {
            if (sumOf(heaps, set) == stones && (fewest == -2 || Integer.bitCount(set) < fewest)) {
                fewest = Integer.bitCount(set);
            }
        }
        return fewest;
    }

    static int half(List<Integer> heaps) {
        int lighter = 0;
        for (int set = 0; set < 1 << heaps.size(); set++) {
            int part = sumOf(heaps, set);
            lighter = Math.max(lighter, Math.min(part, sum(heaps) - part));
        }
        return lighter;
    }

    private static int sumOf(List<Integer> heaps, int set) {
        int sum = 0;
        for (int i = 0; i < heaps.size(); i++) {
            sum += (set >> i & 1) * heaps.get(i);
        }
        return sum;
    }

    /** Follows each way in which nights are slept or not; the sum of what they count for, by 100 to the power of n. */
    static BigInteger weigh(State state, int law, int hold, int sleeps, int n, int many) {
        if (n == 0) {
            int heaps = state.heaps().size();
            return BigInteger.valueOf(many < 0 ? heaps : heaps >= many ? 1 : 0);
        }
        BigInteger slept = weigh(state, law, hold, sleeps, n - 1, many);
        BigInteger awake = weigh(night(state, law, hold), law, hold, sleeps, n - 1, many);
        return slept.multiply(BigInteger.valueOf(sleeps)).add(awake.multiply(BigInteger.valueOf(100 - sleeps)));
    }

    static long lowest(BigInteger upper, int n, boolean lower) {
        BigInteger all = BigInteger.valueOf(100).pow(n);
        BigInteger divisor = upper.gcd(all);
        return (lower ? all : upper).divide(divisor).longValueExact();
    }

    static int drawn(State state, int law, int hold, int sleeps, int seed, int n) {
        BigInteger draw = BigInteger.valueOf(seed);
        for (int i = 0; i < n; i++) {
            draw = draw.multiply(BigInteger.valueOf(75)).add(BigInteger.valueOf(74)).mod(BigInteger.valueOf(65537));
            if (draw.intValue() % 100 >= sleeps) {
                state = night(state, law, hold);
            }
        }
        return state.heaps().size();
    }

    static State of(int held, Integer... heaps) {
        return new State(sorted(Arrays.asList(heaps)), held);
    }
}
