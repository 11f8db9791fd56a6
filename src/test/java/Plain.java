import java.util.ArrayList;
import java.util.BitSet;
import java.util.HashSet;
import java.util.List;
import java.util.Set;
import java.util.TreeSet;

/**
 * The document once more, as slowly and as literally as it can be said, to compare answers with.
 * It shares nothing with the class under test.
 */
final class Plain {
    static final int[] WEIGHTS = {1, 2, 4, 5, 6, 8, 9, 12, 14, 16, 20, 18, 24, 30};
    static final List<List<Integer>> HOUSES = houses();
    private static final boolean[][] PEERS = peerTable();

    /** A step of the trace. */
    static final class Step {
        int rule;
        int p;
        int q;
        List<Integer> gone = new ArrayList<>();
        List<Integer> chain = new ArrayList<>();
    }

    final int[] given = new int[81];
    Set<Integer> now;
    Set<Integer> checker;
    List<Step> trace;
    boolean gradingEnded;
    List<Integer> nodes;
    PlainSearch search;

    Plain() {
        anew();
    }

    private static List<List<Integer>> houses() {
        List<List<Integer>> all = new ArrayList<>();
        for (int h = 0; h < 27; h++) {
            List<Integer> house = new ArrayList<>();
            for (int c = 0; c < 81; c++) {
                int r = c / 9;
                int k = c % 9;
                if (h == r || h == 9 + k || h == 18 + 3 * (r / 3) + k / 3) {
                    house.add(c);
                }
            }
            all.add(house);
        }
        return all;
    }

    private static boolean[][] peerTable() {
        boolean[][] table = new boolean[81][81];
        for (List<Integer> house : HOUSES) {
            for (int a : house) {
                for (int b : house) {
                    table[a][b] = a != b;
                }
            }
        }
        return table;
    }

    static boolean peers(int a, int b) {
        return PEERS[a][b];
    }

    static Set<Integer> atFirst(int[] given) {
        Set<Integer> all = new TreeSet<>();
        for (int n = 0; n < 729; n++) {
            if (given[n / 9] == 0 || given[n / 9] == n % 9 + 1) {
                all.add(n);
            }
        }
        return all;
    }

    static List<Integer> digitsOf(Set<Integer> there, int cell) {
        List<Integer> digits = new ArrayList<>();
        for (int d = 1; d <= 9; d++) {
            if (there.contains(9 * cell + d - 1)) {
                digits.add(d);
            }
        }
        return digits;
    }

    static List<Integer> cellsWith(Set<Integer> there, List<Integer> house, int digit) {
        List<Integer> cells = new ArrayList<>();
        for (int c : house) {
            if (there.contains(9 * c + digit - 1)) {
                cells.add(c);
            }
        }
        return cells;
    }

    static int bitsOf(Set<Integer> there, int cell) {
        int bits = 0;
        for (int d : digitsOf(there, cell)) {
            bits += 1 << (d - 1);
        }
        return bits;
    }

    private void anew() {
        now = atFirst(given);
        checker = atFirst(given);
        trace = new ArrayList<>();
        gradingEnded = false;
        nodes = new ArrayList<>();
        search = null;
    }

    boolean give(int cell, int digit) {
        if (cell < 0 || cell > 80 || digit < 0 || digit > 9) {
            return false;
        }
        given[cell] = digit;
        anew();
        return true;
    }

    boolean row(int r, int v) {
        if (r < 0 || r > 8 || v < 0 || v > 999999999) {
            return false;
        }
        String text = String.format("%09d", v);
        for (int k = 0; k < 9; k++) {
            given[9 * r + k] = text.charAt(k) - '0';
        }
        anew();
        return true;
    }

    int grade(int n) {
        if (n < 0 || n > 30) {
            return -1;
        }
        int done = 0;
        while (done < n) {
            Step step = gradingEnded ? null : firstStep(now);
            if (step == null) {
                gradingEnded = true;
                break;
            }
            now.removeAll(step.gone);
            trace.add(step);
            done++;
        }
        return done;
    }

    int candidates(int cell, int who) {
        if (cell < 0 || cell > 80 || who < 0 || who > 2) {
            return -1;
        }
        return bitsOf(who == 0 ? now : who == 1 ? checker : atFirst(given), cell);
    }

    int told(int what) {
        int score = 0;
        int level = -1;
        int went = 0;
        for (Step s : trace) {
            score += WEIGHTS[s.rule];
            level = Math.max(level, s.rule);
            went += s.gone.size();
        }
        int[] answers = {trace.size(), score, level, went, gradingEnded ? 1 : 0};
        return what < 0 || what > 4 ? -1 : answers[what];
    }

    int step(int i, int what) {
        if (i < 0 || i >= trace.size() || what < 0 || what > 4) {
            return -1;
        }
        Step s = trace.get(i);
        return new int[] {s.rule, s.p, s.q, s.gone.size(), s.chain.size()}[what];
    }

    int gone(int i, int k) {
        if (i < 0 || i >= trace.size() || k < 0 || k >= trace.get(i).gone.size()) {
            return -1;
        }
        return trace.get(i).gone.get(k);
    }

    int link(int i, int k) {
        if (i < 0 || i >= trace.size() || k < 0 || k >= trace.get(i).chain.size()) {
            return -1;
        }
        return trace.get(i).chain.get(k);
    }

    int node(int n) {
        if (n < 0 || n > 728 || nodes.size() == 24) {
            return -1;
        }
        nodes.add(n);
        return nodes.size();
    }

    int claim(int rule, int p, int q) {
        List<Integer> chain = nodes;
        if (rule == 13) {
            nodes = new ArrayList<>();
        }
        return claimOf(rule, p, q, chain);
    }

    private int claimOf(int rule, int p, int q, List<Integer> chain) {
        Set<Integer> goes = rule == 13 ? byChain(checker, chain) : byRule(checker, rule, p, q);
        if (goes.isEmpty()) {
            return -1;
        }
        checker.removeAll(goes);
        return goes.size();
    }

    int replay(int i) {
        if (i < 0 || i > trace.size()) {
            return -1;
        }
        nodes = new ArrayList<>();
        int taken = 0;
        for (Step s : trace.subList(i, trace.size())) {
            if (claimOf(s.rule, s.p, s.q, s.chain) < 0) {
                break;
            }
            taken++;
        }
        return taken;
    }

    int search(int n) {
        if (n < 0 || n > 300) {
            return -1;
        }
        if (search == null) {
            search = new PlainSearch(given);
        }
        search.allow(n);
        return search.found.size();
    }

    int searched(int what) {
        boolean ended = search != null && search.ended();
        switch (what) {
            case 0:
                return ended ? 1 : 0;
            case 1:
                return search == null ? 0 : search.tries;
            case 2:
                return !ended ? -1 : search.found.size() == 1 ? 1 : 0;
            default:
                return -1;
        }
    }

    int solution(int k, int cell) {
        if (search == null || k < 0 || k >= search.found.size() || cell < 0 || cell > 80) {
            return -1;
        }
        return search.found.get(k)[cell];
    }

    // ---- the rules, each as it is said; what is no instance makes nothing go

    static Set<Integer> byRule(Set<Integer> there, int rule, int p, int q) {
        Set<Integer> goes = new TreeSet<>();
        switch (rule) {
            case 0: single(there, p, q, goes); break;
            case 1: hiddenSingle(there, p, q, goes); break;
            case 2: pointing(there, p, q, goes); break;
            case 3: claiming(there, p, q, goes); break;
            case 4: naked(there, 2, p, q, goes); break;
            case 5: hidden(there, 2, p, q, goes); break;
            case 6: naked(there, 3, p, q, goes); break;
            case 7: hidden(there, 3, p, q, goes); break;
            case 8: fish(there, 2, p, q, goes); break;
            case 9: naked(there, 4, p, q, goes); break;
            case 10: hidden(there, 4, p, q, goes); break;
            case 11: fish(there, 3, p, q, goes); break;
            case 12: fish(there, 4, p, q, goes); break;
            default: break;
        }
        goes.retainAll(there);
        return goes;
    }

    private static void single(Set<Integer> there, int p, int q, Set<Integer> goes) {
        if (p < 0 || p > 80 || q < 1 || q > 9 || !digitsOf(there, p).equals(List.of(q))) {
            return;
        }
        for (int c = 0; c < 81; c++) {
            if (peers(p, c)) {
                goes.add(9 * c + q - 1);
            }
        }
    }

    private static void hiddenSingle(Set<Integer> there, int p, int q, Set<Integer> goes) {
        if (p < 0 || p > 26 || q < 1 || q > 9) {
            return;
        }
        List<Integer> with = cellsWith(there, HOUSES.get(p), q);
        if (with.size() == 1) {
            for (int d = 1; d <= 9; d++) {
                if (d != q) {
                    goes.add(9 * with.get(0) + d - 1);
                }
            }
        }
    }

    private static void pointing(Set<Integer> there, int p, int q, Set<Integer> goes) {
        if (p < 18 || p > 26 || q < 1 || q > 9) {
            return;
        }
        locked(there, p, q, 0, 17, goes);
    }

    private static void claiming(Set<Integer> there, int p, int q, Set<Integer> goes) {
        if (p < 0 || p > 17 || q < 1 || q > 9) {
            return;
        }
        locked(there, p, q, 18, 26, goes);
    }

    /** Rows are houses before columns, so the first house that has all the cells is the one meant. */
    private static void locked(Set<Integer> there, int p, int q, int from, int to, Set<Integer> goes) {
        List<Integer> with = cellsWith(there, HOUSES.get(p), q);
        if (with.isEmpty()) {
            return;
        }
        for (int h = from; h <= to; h++) {
            if (HOUSES.get(h).containsAll(with)) {
                for (int c : HOUSES.get(h)) {
                    if (!HOUSES.get(p).contains(c)) {
                        goes.add(9 * c + q - 1);
                    }
                }
                return;
            }
        }
    }

    private static boolean isSet(int q, int k) {
        return q >= 0 && q < 512 && Integer.bitCount(q) == k;
    }

    private static void naked(Set<Integer> there, int k, int p, int q, Set<Integer> goes) {
        if (p < 0 || p > 26 || !isSet(q, k)) {
            return;
        }
        Set<Integer> together = new HashSet<>();
        for (int i = 0; i < 9; i++) {
            if ((q >> i) % 2 == 1) {
                together.addAll(digitsOf(there, HOUSES.get(p).get(i)));
            }
        }
        if (together.size() != k) {
            return;
        }
        for (int i = 0; i < 9; i++) {
            if ((q >> i) % 2 == 0) {
                for (int d : together) {
                    goes.add(9 * HOUSES.get(p).get(i) + d - 1);
                }
            }
        }
    }

    private static void hidden(Set<Integer> there, int k, int p, int q, Set<Integer> goes) {
        if (p < 0 || p > 26 || !isSet(q, k)) {
            return;
        }
        List<Integer> cells = new ArrayList<>();
        for (int c : HOUSES.get(p)) {
            if ((bitsOf(there, c) & q) != 0) {
                cells.add(c);
            }
        }
        if (cells.size() != k) {
            return;
        }
        for (int c : cells) {
            for (int d = 1; d <= 9; d++) {
                if ((q >> (d - 1)) % 2 == 0) {
                    goes.add(9 * c + d - 1);
                }
            }
        }
    }

    private static void fish(Set<Integer> there, int k, int p, int q, Set<Integer> goes) {
        boolean columns = p > 16;
        int d = columns ? p - 16 : p;
        if (d < 1 || d > 9 || !isSet(q, k)) {
            return;
        }
        Set<Integer> across = new HashSet<>();
        for (int c = 0; c < 81; c++) {
            int base = columns ? c % 9 : c / 9;
            int cross = columns ? c / 9 : c % 9;
            if ((q >> base) % 2 == 1 && there.contains(9 * c + d - 1)) {
                across.add(cross);
            }
        }
        if (across.size() != k) {
            return;
        }
        for (int c = 0; c < 81; c++) {
            int base = columns ? c % 9 : c / 9;
            int cross = columns ? c / 9 : c % 9;
            if ((q >> base) % 2 == 0 && across.contains(cross)) {
                goes.add(9 * c + d - 1);
            }
        }
    }

    static boolean weak(Set<Integer> there, int a, int b) {
        if (a == b || !there.contains(a) || !there.contains(b)) {
            return false;
        }
        return a / 9 == b / 9 || a % 9 == b % 9 && peers(a / 9, b / 9);
    }

    static boolean strong(Set<Integer> there, int a, int b) {
        if (!weak(there, a, b)) {
            return false;
        }
        if (a / 9 == b / 9) {
            return digitsOf(there, a / 9).size() == 2;
        }
        for (List<Integer> house : HOUSES) {
            if (house.contains(a / 9) && house.contains(b / 9) && cellsWith(there, house, a % 9 + 1).size() == 2) {
                return true;
            }
        }
        return false;
    }

    static Set<Integer> byChain(Set<Integer> there, List<Integer> chain) {
        Set<Integer> goes = new TreeSet<>();
        if (chain.isEmpty() || chain.size() % 2 == 1 || chain.size() > 24) {
            return goes;
        }
        for (int i = 1; i < chain.size(); i++) {
            int a = chain.get(i - 1);
            int b = chain.get(i);
            if (i % 2 == 1 ? !strong(there, a, b) : !weak(there, a, b)) {
                return goes;
            }
        }
        for (int x : there) {
            if (weak(there, x, chain.get(0)) && weak(there, x, chain.get(chain.size() - 1))) {
                goes.add(x);
            }
        }
        return goes;
    }

    // ---- the first instance

    /** Sets of k of nine, those with the lesser least bits first. */
    static List<Integer> sets(int k) {
        List<Integer> all = new ArrayList<>();
        for (int q = 0; q < 512; q++) {
            if (Integer.bitCount(q) == k) {
                all.add(q);
            }
        }
        // of two sets the first has the least bit that is not in both
        all.sort((a, b) -> a.equals(b) ? 0 : (a & Integer.lowestOneBit(a ^ b)) != 0 ? -1 : 1);
        return all;
    }

    static List<Integer> qs(int rule) {
        switch (rule) {
            case 4: case 5: case 8: return sets(2);
            case 6: case 7: case 11: return sets(3);
            case 9: case 10: case 12: return sets(4);
            default: return List.of(1, 2, 3, 4, 5, 6, 7, 8, 9);
        }
    }

    static Step firstStep(Set<Integer> there) {
        for (int rule = 0; rule < 13; rule++) {
            List<Integer> qs = qs(rule);
            for (int p = 0; p < 81; p++) {
                for (int q : qs) {
                    Set<Integer> goes = byRule(there, rule, p, q);
                    if (!goes.isEmpty()) {
                        return stepOf(rule, p, q, goes, List.of());
                    }
                }
            }
        }
        List<Integer> chain = firstChain(there);
        return chain == null ? null : stepOf(13, chain.size() / 2, chain.get(0), byChain(there, chain), chain);
    }

    private static Step stepOf(int rule, int p, int q, Set<Integer> goes, List<Integer> chain) {
        Step s = new Step();
        s.rule = rule;
        s.p = p;
        s.q = q;
        s.gone.addAll(goes);
        s.chain.addAll(chain);
        return s;
    }

    /** All rows are taken layer by layer; what leads to no good end is struck out from behind. */
    static List<Integer> firstChain(Set<Integer> there) {
        BitSet[] weak = new BitSet[729];
        BitSet[] strong = new BitSet[729];
        for (int a = 0; a < 729; a++) {
            weak[a] = new BitSet();
            strong[a] = new BitSet();
        }
        for (int a : there) {
            for (int b : there) {
                if (a / 9 == b / 9 || a % 9 == b % 9) {
                    weak[a].set(b, weak(there, a, b));
                    strong[a].set(b, strong(there, a, b));
                }
            }
        }
        for (int m = 1; m <= 12; m++) {
            for (int a : there) {
                List<Integer> row = leastRow(a, m, weak, strong);
                if (row != null) {
                    return row;
                }
            }
        }
        return null;
    }

    private static List<Integer> leastRow(int a, int m, BitSet[] weak, BitSet[] strong) {
        BitSet[] layers = new BitSet[2 * m];
        layers[0] = new BitSet();
        layers[0].set(a);
        for (int i = 1; i < 2 * m; i++) {
            BitSet next = new BitSet();
            BitSet[] links = i % 2 == 1 ? strong : weak;
            layers[i - 1].stream().forEach(x -> next.or(links[x]));
            layers[i] = next;
        }
        BitSet good = new BitSet();
        layers[2 * m - 1].stream().filter(e -> weak[e].intersects(weak[a])).forEach(good::set);
        if (good.isEmpty()) {
            return null;
        }
        layers[2 * m - 1] = good;
        for (int i = 2 * m - 2; i >= 0; i--) {
            BitSet kept = new BitSet();
            BitSet after = layers[i + 1];
            BitSet[] links = i % 2 == 0 ? strong : weak;
            layers[i].stream().filter(x -> links[x].intersects(after)).forEach(kept::set);
            layers[i] = kept;
        }
        List<Integer> row = new ArrayList<>();
        row.add(a);
        for (int i = 1; i < 2 * m; i++) {
            BitSet may = (BitSet) (i % 2 == 1 ? strong : weak)[row.get(i - 1)].clone();
            may.and(layers[i]);
            row.add(may.nextSetBit(0));
        }
        return row;
    }
}
