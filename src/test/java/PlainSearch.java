import java.util.ArrayList;
import java.util.List;
import java.util.Set;
import java.util.TreeSet;

/** The document's search, all of it at once up to a number of tries, from the start each time. */
final class PlainSearch {
    private final int[] given;
    private int allowed;
    int tries;
    private boolean begun;
    private boolean cut;
    final List<int[]> found = new ArrayList<>();

    PlainSearch(int[] given) {
        this.given = given.clone();
    }

    void allow(int more) {
        if (begun && ended()) {
            return;
        }
        begun = true;
        allowed = tries + more;
        tries = 0;
        cut = false;
        found.clear();
        goOn(closed(Plain.atFirst(given)));
    }

    boolean ended() {
        return !cut;
    }

    private void goOn(Set<Integer> there) {
        if (dead(there)) {
            return;
        }
        int cell = fewest(there);
        if (cell < 0) {
            int[] digits = new int[81];
            for (int n : there) {
                digits[n / 9] = n % 9 + 1;
            }
            found.add(digits);
            return;
        }
        for (int d : Plain.digitsOf(there, cell)) {
            if (cut || found.size() == 2) {
                return;
            }
            if (tries == allowed) {
                cut = true;
                return;
            }
            tries++;
            Set<Integer> next = new TreeSet<>(there);
            next.removeIf(n -> n / 9 == cell && n % 9 + 1 != d);
            goOn(closed(next));
        }
    }

    private static int fewest(Set<Integer> there) {
        int best = -1;
        int least = 10;
        for (int c = 0; c < 81; c++) {
            int size = Plain.digitsOf(there, c).size();
            if (size > 1 && size < least) {
                best = c;
                least = size;
            }
        }
        return best;
    }

    static boolean dead(Set<Integer> there) {
        for (int c = 0; c < 81; c++) {
            if (Plain.digitsOf(there, c).isEmpty()) {
                return true;
            }
        }
        for (List<Integer> house : Plain.HOUSES) {
            for (int d = 1; d <= 9; d++) {
                if (Plain.cellsWith(there, house, d).isEmpty()) {
                    return true;
                }
            }
        }
        return false;
    }

    static Set<Integer> closed(Set<Integer> start) {
        Set<Integer> there = new TreeSet<>(start);
        boolean more = true;
        while (more) {
            more = false;
            for (int rule = 0; rule < 2; rule++) {
                for (int p = 0; p < 81; p++) {
                    for (int q = 1; q <= 9; q++) {
                        more |= there.removeAll(Plain.byRule(there, rule, p, q));
                    }
                }
            }
        }
        return there;
    }
}
