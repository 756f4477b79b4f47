import java.math.BigInteger;
import java.util.ArrayList;
import java.util.Arrays;
import java.util.HashMap;
import java.util.List;
import java.util.Map;

/**
 * What the document says of meetings, weeks and orders, for cloths of any size: Model.java tries every chain of
 * rows, this one counts them, from the first row on, and keeps each count. It reads no text: a test tells it all.
 */
final class WideModel {
    static final BigInteger MOST_TOLD = BigInteger.TEN.pow(18);
    private static final int MOST_ROWS = 24;

    int length;
    int slack;
    int rate;
    final int[] hands = new int[2];
    int colours;
    int kinds;
    final int[] colour = new int[8];
    final int[] takes = new int[8];
    final boolean[] seam = new boolean[8];
    final boolean[][] next = new boolean[8][8];
    /** The side of the first one, its place, the latter's place. */
    final List<int[]> notes = new ArrayList<>();
    State now = new State();

    private final Map<List<Integer>, BigInteger[]> counted = new HashMap<>();

    /** What stands, and what an undoing or a mark brings back. */
    static final class State {
        final List<List<Integer>> rows = List.of(new ArrayList<>(), new ArrayList<>());
        final int[][] stores = new int[2][2];
        final int[][] waste = new int[2][2];
        int weeks = 0;

        State copy() {
            State other = new State();
            for (int side = 0; side < 2; side++) {
                other.rows.get(side).addAll(rows.get(side));
                other.stores[side] = stores[side].clone();
                other.waste[side] = waste[side].clone();
            }
            other.weeks = weeks;
            return other;
        }
    }

    /** How many rows each side rips and weaves, and which ones, from left to right. */
    record Meeting(int leftRipped, int rightRipped, int leftWoven, int rightWoven, List<Integer> rows) {
        int ripped() {
            return leftRipped + rightRipped;
        }

        int woven() {
            return leftWoven + rightWoven;
        }

        int[] key() {
            return new int[] {ripped(), woven(), leftRipped, leftWoven};
        }
    }

    // ---- weaving

    static int lastOf(State s, int side, int ripped) {
        int stays = s.rows.get(side).size() - ripped;
        return stays == 0 ? -1 : s.rows.get(side).get(stays - 1);
    }

    private boolean mayCome(int side, int last, int r) {
        return last < 0 || !seam[last] && (side == 0 ? next[last][r] : next[r][last]);
    }

    boolean mayWeave(State s, int side, int r) {
        return s.rows.get(side).size() < MOST_ROWS && mayCome(side, lastOf(s, side, 0), r)
            && takes[r] <= s.stores[side][colour[r]];
    }

    int may(State s, int side) {
        int bits = 0;
        for (int r = 0; r < kinds; r++) {
            bits |= mayWeave(s, side, r) ? 1 << r : 0;
        }
        return bits;
    }

    void weave(State s, int side, int r) {
        s.rows.get(side).add(r);
        s.stores[side][colour[r]] -= takes[r];
    }

    void rip(State s, int side) {
        int r = s.rows.get(side).remove(s.rows.get(side).size() - 1);
        s.waste[side][colour[r]] += takes[r];
    }

    boolean fits(int left, int right) {
        int units = left * hands[0] + right * hands[1];
        return units >= length && units <= length + slack;
    }

    // ---- chains of rows

    /** How many chains of exactly so many rows a side can weave, by the row that stands last then. */
    private BigInteger[] chains(int side, int last, int store0, int store1, int rows) {
        List<Integer> key = Arrays.asList(side, last, store0, store1, rows);
        BigInteger[] known = counted.get(key);
        if (known != null) {
            return known;
        }
        BigInteger[] sums = new BigInteger[8];
        Arrays.fill(sums, BigInteger.ZERO);
        if (rows == 0 && last >= 0) {
            sums[last] = BigInteger.ONE;
        }
        for (int r = 0; r < kinds && rows > 0; r++) {
            int left0 = store0 - (colour[r] == 0 ? takes[r] : 0);
            int left1 = store1 - (colour[r] == 1 ? takes[r] : 0);
            if (mayCome(side, last, r) && left0 >= 0 && left1 >= 0) {
                BigInteger[] more = chains(side, r, left0, left1, rows - 1);
                for (int q = 0; q < kinds; q++) {
                    sums[q] = sums[q].add(more[q]);
                }
            }
        }
        counted.put(key, sums);
        return sums;
    }

    private BigInteger[] chains(State s, int side, int ripped, int rows) {
        return chains(side, lastOf(s, side, ripped), s.stores[side][0], s.stores[side][1], rows);
    }

    private BigInteger joined(BigInteger[] lefts, BigInteger[] rights) {
        BigInteger sum = BigInteger.ZERO;
        for (int l = 0; l < kinds; l++) {
            for (int r = 0; r < kinds; r++) {
                if (next[l][r]) {
                    sum = sum.add(lefts[l].multiply(rights[r]));
                }
            }
        }
        return sum;
    }

    int far(State s, int side) {
        int rows = 0;
        while (s.rows.get(side).size() + rows < MOST_ROWS && some(chains(s, side, 0, rows + 1))) {
            rows++;
        }
        return rows;
    }

    private static boolean some(BigInteger[] counts) {
        return Arrays.stream(counts).anyMatch(count -> count.signum() > 0);
    }

    // ---- meetings

    BigInteger ways(State s) {
        BigInteger sum = BigInteger.ZERO;
        for (int left = 0; s.rows.get(0).size() + left <= MOST_ROWS; left++) {
            for (int right = 0; s.rows.get(1).size() + right <= MOST_ROWS; right++) {
                if (fits(s.rows.get(0).size() + left, s.rows.get(1).size() + right)) {
                    sum = sum.add(joined(chains(s, 0, 0, left), chains(s, 1, 0, right)));
                }
            }
        }
        return sum;
    }

    boolean sure(State s, int side, int r) {
        State then = s.copy();
        weave(then, side, r);
        int replies = may(then, 1 - side);
        for (int q = 0; q < kinds; q++) {
            if ((replies >> q & 1) == 1) {
                State answered = then.copy();
                weave(answered, 1 - side, q);
                if (ways(answered).signum() == 0) {
                    return false;
                }
            }
        }
        return replies != 0 || ways(then).signum() > 0;
    }

    /** Holds every shape of a meeting against every other one, then looks for the rows of the best. */
    Meeting best(State s) {
        int lefts = s.rows.get(0).size();
        int rights = s.rows.get(1).size();
        Meeting best = null;
        for (int byLeft = 0; byLeft <= lefts; byLeft++) {
            for (int byRight = 0; byRight <= rights; byRight++) {
                for (int left = 0; lefts - byLeft + left <= MOST_ROWS; left++) {
                    for (int right = 0; rights - byRight + right <= MOST_ROWS; right++) {
                        Meeting other = new Meeting(byLeft, byRight, left, right, null);
                        if (fits(lefts - byLeft + left, rights - byRight + right)
                            && (best == null || Arrays.compare(other.key(), best.key()) < 0)
                            && joined(chains(s, 0, byLeft, left), chains(s, 1, byRight, right)).signum() > 0) {
                            best = other;
                        }
                    }
                }
            }
        }
        return best == null ? null : new Meeting(best.leftRipped, best.rightRipped, best.leftWoven, best.rightWoven,
            firstRows(s, best));
    }

    private List<Integer> firstRows(State s, Meeting m) {
        List<Integer> rows = new ArrayList<>();
        BigInteger[] rights = chains(s, 1, m.rightRipped, m.rightWoven);
        int[] store = s.stores[0].clone();
        int last = lastOf(s, 0, m.leftRipped);
        for (int i = m.leftWoven - 1; i >= 0; i--) {
            for (int r = 0; r < kinds; r++) {
                if (mayCome(0, last, r) && takes[r] <= store[colour[r]]) {
                    int[] then = store.clone();
                    then[colour[r]] -= takes[r];
                    if (joined(chains(0, r, then[0], then[1], i), rights).signum() > 0) {
                        rows.add(r);
                        store = then;
                        last = r;
                        break;
                    }
                }
            }
        }
        addRights(s, m, last, rows);
        return rows;
    }

    /** The right's rows from the seam outward: of each the first for which its weaver could have come so far. */
    private void addRights(State s, Meeting m, int leftLast, List<Integer> rows) {
        int[] store = s.stores[1].clone();
        int beside = leftLast;
        int rightLast = lastOf(s, 1, m.rightRipped);
        for (int i = m.rightWoven - 1; i >= 0; i--) {
            for (int r = 0; r < kinds; r++) {
                boolean innermost = i == m.rightWoven - 1;
                if (!next[beside][r] || !innermost && seam[r] || takes[r] > store[colour[r]]) {
                    continue;
                }
                int[] then = store.clone();
                then[colour[r]] -= takes[r];
                BigInteger[] ahead = chains(1, rightLast, then[0], then[1], i);
                boolean reached = i == 0 && mayCome(1, rightLast, r);
                for (int q = 0; q < kinds && i > 0; q++) {
                    reached |= ahead[q].signum() > 0 && mayCome(1, q, r);
                }
                if (reached) {
                    rows.add(r);
                    store = then;
                    beside = r;
                    break;
                }
            }
        }
    }

    int weeks(State s, int n) {
        int woven = 0;
        for (int i = 0; i < n * 2 * rate; i++) {
            int side = i / rate % 2;
            Meeting m = best(s);
            if (m != null && m.ripped() == 0 && (side == 0 ? m.leftWoven : m.rightWoven) > 0) {
                weave(s, side, m.rows.get(side == 0 ? 0 : m.rows.size() - 1));
                woven++;
            }
        }
        s.weeks += n;
        return woven;
    }

    // ---- orders

    /** In how many orders the rest may come, so many of each side being there; notes have a left's place ahead, too. */
    BigInteger orders(State s, List<int[]> kept) {
        return orders(s, kept, 0, 0, new HashMap<>());
    }

    private BigInteger orders(State s, List<int[]> kept, int left, int right, Map<Integer, BigInteger> known) {
        int lefts = s.rows.get(0).size();
        int rights = s.rows.get(1).size();
        if (left == lefts && right == rights) {
            return BigInteger.ONE;
        }
        if (!known.containsKey(left * 100 + right)) {
            BigInteger sum = BigInteger.ZERO;
            if (left < lefts && mayComeNow(kept, 0, left, right)) {
                sum = sum.add(orders(s, kept, left + 1, right, known));
            }
            if (right < rights && mayComeNow(kept, 1, right, left)) {
                sum = sum.add(orders(s, kept, left, right + 1, known));
            }
            known.put(left * 100 + right, sum);
        }
        return known.get(left * 100 + right);
    }

    private static boolean mayComeNow(List<int[]> kept, int side, int place, int others) {
        for (int[] note : kept) {
            if (note[0] != side && note[2] == place && note[1] >= others) {
                return false;
            }
        }
        return true;
    }
}
