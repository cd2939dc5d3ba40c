import java.util.ArrayDeque;
import java.util.ArrayList;
import java.util.Arrays;
import java.util.Deque;
import java.util.HashMap;
import java.util.List;
import java.util.Map;
import java.util.TreeSet;
import java.util.function.ToLongFunction;

/**
 * The document's terms reckoned a second time, word by word and slowly: each question goes over sets of rows, nothing is
 * kept from one call to the next but the state itself and who KNOWS, ANEW, in each row behind each number of rounds.
 */
final class Model {
    int marks;
    int guests;
    int slip;
    int[] sees;
    int worn;
    int round;
    long seed = 1;
    List<ToLongFunction<int[]>> rules = new ArrayList<>();
    List<ToLongFunction<int[]>> facts = new ArrayList<>();
    TreeSet<Integer> all = new TreeSet<>();
    TreeSet<Integer> left = new TreeSet<>();
    List<int[]> kept = new ArrayList<>();
    List<int[]> heard = new ArrayList<>();
    final int[] refused = new int[6];
    private final Deque<Object[]> past = new ArrayDeque<>();
    private final Map<Integer, int[]> anew = new HashMap<>();

    int rowCount() {
        int n = 1;
        for (int g = 0; g < guests; g++) {
            n *= marks;
        }
        return n;
    }

    int[] rowOf(int number) {
        int[] row = new int[guests];
        for (int g = 0; g < guests; g++) {
            row[g] = number % marks;
            number /= marks;
        }
        return row;
    }

    int numberOf(int[] row) {
        int n = 0;
        for (int g = guests - 1; g >= 0; g--) {
            n = n * marks + row[g];
        }
        return n;
    }

    boolean isAllowed(int number) {
        for (ToLongFunction<int[]> rule : rules) {
            if (rule.applyAsLong(rowOf(number)) == 0) {
                return false;
            }
        }
        return true;
    }

    void start(int[] row) {
        for (int k = 0; k < rowCount(); k++) {
            if (isAllowed(k)) {
                all.add(k);
            }
        }
        begin(numberOf(row));
    }

    private void begin(int number) {
        worn = number;
        left = new TreeSet<>(all);
        round = 0;
    }

    TreeSet<Integer> rowsOf(int guest, int at, TreeSet<Integer> among) {
        TreeSet<Integer> found = new TreeSet<>();
        int[] here = rowOf(at);
        for (int other : among) {
            int[] there = rowOf(other);
            boolean agrees = true;
            for (int g = 0; g < guests; g++) {
                agrees &= (sees[guest] >> g & 1) == 0 || here[g] == there[g];
            }
            if (agrees) {
                found.add(other);
            }
        }
        return found;
    }

    int marksHeld(int guest, int at, TreeSet<Integer> among) {
        int bits = 0;
        for (int r : rowsOf(guest, at, among)) {
            bits |= 1 << rowOf(r)[guest];
        }
        return bits;
    }

    boolean knows(int guest, int at, TreeSet<Integer> among) {
        return Integer.bitCount(marksHeld(guest, at, among)) == 1;
    }

    int knowers(int at, TreeSet<Integer> among) {
        int bits = 0;
        for (int g = 0; g < guests; g++) {
            bits |= knows(g, at, among) ? 1 << g : 0;
        }
        return bits;
    }

    TreeSet<Integer> afterRound(int truth, TreeSet<Integer> among, int mask) {
        TreeSet<Integer> stay = new TreeSet<>();
        int said = knowers(truth, among) & mask;
        for (int r : among) {
            if ((knowers(r, among) & mask) == said) {
                stay.add(r);
            }
        }
        return stay;
    }

    private TreeSet<Integer> afterRounds(int truth, TreeSet<Integer> among, int n) {
        TreeSet<Integer> now = among;
        for (int k = 0; k < n; k++) {
            TreeSet<Integer> then = afterRound(truth, now, -1);
            if (then.equals(now)) {
                return now;
            }
            now = then;
        }
        return now;
    }

    TreeSet<Integer> afterSaying(int guest) {
        return afterRound(worn, left, 1 << guest);
    }

    TreeSet<Integer> afterFacts(int bits) {
        TreeSet<Integer> stay = new TreeSet<>();
        for (int r : left) {
            boolean alike = true;
            for (int f = 0; f < facts.size(); f++) {
                alike &= (bits >> f & 1) == 0 || holds(f, r) == holds(f, worn);
            }
            if (alike) {
                stay.add(r);
            }
        }
        return stay;
    }

    boolean holds(int fact, int row) {
        return facts.get(fact).applyAsLong(rowOf(row)) != 0;
    }

    int countHolding(int fact) {
        int n = 0;
        for (int r : all) {
            n += holds(fact, r) ? 1 : 0;
        }
        return n;
    }

    int knowsOf(int guest, int other) {
        int yes = 0;
        int no = 0;
        for (int r : rowsOf(guest, worn, left)) {
            if (knows(other, r, left)) {
                yes++;
            } else {
                no++;
            }
        }
        return no == 0 ? 1 : yes == 0 ? 2 : 0;
    }

    int deep() {
        int level = 0;
        while (level < 9 && isDeep(worn, level + 1)) {
            level++;
        }
        return level;
    }

    /** Whether in that ROW it is known so deep. */
    private boolean isDeep(int row, int level) {
        TreeSet<Integer> reached = new TreeSet<>();
        reached.add(row);
        for (int k = 1; k < level; k++) {
            TreeSet<Integer> wider = new TreeSet<>(reached);
            for (int r : reached) {
                for (int g = 0; g < guests; g++) {
                    wider.addAll(rowsOf(g, r, left));
                }
            }
            reached = wider;
        }
        for (int r : reached) {
            if (knowers(r, left) != (1 << guests) - 1) {
                return false;
            }
        }
        return true;
    }

    boolean knowsLater(int guest, int n) {
        return knows(guest, worn, afterRounds(worn, left, n));
    }

    int learns(int guest) {
        for (int n = 0; n <= 20; n++) {
            if (knowsLater(guest, n)) {
                return n;
            }
        }
        return -1;
    }

    int rests() {
        for (int n = 0; n <= 20; n++) {
            TreeSet<Integer> then = afterRounds(worn, left, n);
            if (afterRound(worn, then, -1).equals(then)) {
                return n;
            }
        }
        return -1;
    }

    int fewestFacts(int guest, int from) {
        for (int size = 0; size <= facts.size(); size++) {
            for (int bits = 0; bits < 1 << facts.size(); bits++) {
                if (Integer.bitCount(bits) == size) {
                    TreeSet<Integer> stay = afterFacts(bits);
                    if (knows(guest, worn, stay) && (from < 0 || !knows(from, worn, stay))) {
                        return bits;
                    }
                }
            }
        }
        return -1;
    }

    int speaker() {
        int best = -1;
        for (int g = 0; g < guests; g++) {
            if (best < 0 || afterSaying(g).size() < afterSaying(best).size()) {
                best = g;
            }
        }
        return best;
    }

    boolean knowsAnew(int guest, int row, int n) {
        return (anew.computeIfAbsent(row, this::knowersAnew)[n] >> guest & 1) != 0;
    }

    /** Who KNOWS in a row behind each number of rounds. */
    private int[] knowersAnew(int row) {
        int[] bits = new int[21];
        TreeSet<Integer> now = all;
        for (int n = 0; n <= 20; n++) {
            TreeSet<Integer> then = afterRound(row, now, -1);
            bits[n] = knowers(row, now);
            if (then.equals(now)) {
                Arrays.fill(bits, n, 21, bits[n]);
                break;
            }
            now = then;
        }
        return bits;
    }

    int firstAnew(int guest, int row) {
        for (int n = 0; n <= 20; n++) {
            if (knowsAnew(guest, row, n)) {
                return n;
            }
        }
        return -1;
    }

    int slowest(int guest) {
        int best = -1;
        int most = -1;
        for (int r : all) {
            int n = firstAnew(guest, r);
            if (n > most) {
                best = r;
                most = n;
            }
        }
        return best;
    }

    int odds(int guest, int n) {
        int times = 0;
        for (int r : all) {
            times += knowsAnew(guest, r, n) ? 1 : 0;
        }
        return times;
    }

    TreeSet<Integer> fits() {
        TreeSet<Integer> found = new TreeSet<>();
        for (int r : all) {
            boolean so = true;
            for (int[] h : heard) {
                so &= knowsAnew(h[1], r, h[0]) == (h[2] == 1);
            }
            if (so) {
                found.add(r);
            }
        }
        return found;
    }

    /** Rounds, guest, how many are left at the most. */
    int[] tells() {
        TreeSet<Integer> fits = fits();
        int[] best = null;
        for (int n = 0; n <= 15; n++) {
            for (int g = 0; g < guests; g++) {
                int yes = 0;
                for (int r : fits) {
                    yes += knowsAnew(g, r, n) ? 1 : 0;
                }
                int most = Math.max(yes, fits.size() - yes);
                if (best == null || most < best[2]) {
                    best = new int[] {n, g, most};
                }
            }
        }
        return best;
    }

    private void save() {
        past.addLast(new Object[] {worn, round, new TreeSet<>(left), new ArrayList<>(kept)});
        if (past.size() > 20) {
            past.removeFirst();
        }
    }

    int undoable() {
        return past.size();
    }

    void forgetPast() {
        past.clear();
        kept.clear();
    }

    @SuppressWarnings("unchecked")
    boolean undo() {
        if (past.isEmpty()) {
            refused[4]++;
            return false;
        }
        Object[] was = past.removeLast();
        worn = (Integer) was[0];
        round = (Integer) was[1];
        left = (TreeSet<Integer>) was[2];
        kept = (List<int[]>) was[3];
        return true;
    }

    int round() {
        if (round >= 999) {
            refused[3]++;
            return -1;
        }
        save();
        return playRound(-1);
    }

    private int playRound(int mask) {
        int said = knowers(worn, left) & mask;
        left = afterRound(worn, left, mask);
        round++;
        kept.add(new int[] {0, 0, said, left.size()});
        return said;
    }

    int says(int guest) {
        if (guest < 0 || guest >= guests) {
            refused[2]++;
            return -1;
        }
        save();
        int said = knows(guest, worn, left) ? 1 : 0;
        left = afterSaying(guest);
        kept.add(new int[] {1, guest, said, left.size()});
        return said;
    }

    int tell(int fact) {
        if (fact < 0 || fact >= facts.size()) {
            refused[2]++;
            return -1;
        }
        save();
        left = afterFacts(1 << fact);
        int said = holds(fact, worn) ? 1 : 0;
        kept.add(new int[] {2, fact, said, left.size()});
        return said;
    }

    boolean wear(int guest, int mark) {
        if (guest >= 0 && guest < guests && mark >= 0 && mark < marks) {
            int[] row = rowOf(worn);
            if (row[guest] != mark) {
                row[guest] = mark;
                if (isAllowed(numberOf(row))) {
                    save();
                    begin(numberOf(row));
                    return true;
                }
            }
        }
        refused[2]++;
        return false;
    }

    private int draw(int m) {
        seed = (1103515245L * seed + 12345L) % (1L << 31);
        return (int) (seed / 64 % m);
    }

    int chance(int n) {
        if (n < 1 || n > 20 || round + n > 999) {
            refused[3]++;
            return -1;
        }
        save();
        int times = 0;
        for (int k = 0; k < n; k++) {
            int mask = -1;
            if (draw(100) < slip && guests > 0) {
                mask = ~(1 << draw(guests));
                times++;
            }
            playRound(mask);
        }
        return times;
    }

    int deal() {
        save();
        begin(new ArrayList<>(all).get(draw(all.size())));
        return worn;
    }

    byte[] image() {
        List<Integer> b = new ArrayList<>(List.of(round / 256, round % 256));
        for (int m : rowOf(worn)) {
            b.add(m);
        }
        for (int at = 0; at < rowCount(); at += 8) {
            int bits = 0;
            for (int k = 0; k < 8; k++) {
                bits += left.contains(at + k) ? 1 << k : 0;
            }
            b.add(bits);
        }
        int c = 197;
        for (int x : b) {
            c = (3 * c + x) % 251;
        }
        b.add(c);
        byte[] bytes = new byte[b.size()];
        for (int k = 0; k < bytes.length; k++) {
            bytes[k] = (byte) (int) b.get(k);
        }
        return bytes;
    }
}
