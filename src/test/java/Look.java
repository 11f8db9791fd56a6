import java.util.LinkedHashMap;
import java.util.Map;

/** What an object answers at a moment, by call: two looks and their grid take less than 512 calls. */
final class Look {
    private Look() {
    }

    /** Calls that only read. */
    static Map<String, Integer> at(SudokuGrader x) {
        Map<String, Integer> all = new LinkedHashMap<>();
        for (int cell = 0; cell < 81; cell++) {
            all.put("candidates(" + cell + ", 0)", x.candidates(cell, 0));
            all.put("candidates(" + cell + ", 1)", x.candidates(cell, 1));
        }
        for (int cell = 0; cell < 81; cell += 4) {
            all.put("candidates(" + cell + ", 2)", x.candidates(cell, 2));
        }
        for (int what = 0; what < 5; what++) {
            all.put("told(" + what + ")", x.told(what));
        }
        int last = x.told(0) - 1;
        for (int what = 0; what < 5; what++) {
            all.put("step(" + last + ", " + what + ")", x.step(last, what));
        }
        all.put("step beyond the last one", x.step(last + 1, 0));
        for (int k = 0; k < 2; k++) {
            all.put("gone(" + last + ", " + k + ")", x.gone(last, k));
            all.put("link(" + last + ", " + k + ")", x.link(last, k));
        }
        for (int what = 0; what < 3; what++) {
            all.put("searched(" + what + ")", x.searched(what));
        }
        for (int k = 0; k < 3; k++) {
            all.put("solution(" + k + ", 3)", x.solution(k, 3));
            all.put("solution(" + k + ", 80)", x.solution(k, 80));
        }
        return all;
    }

    /** Calls that go on from a moment, to tell what no reading shows: the nodes, and what is left to try. */
    static Map<String, Integer> goingOn(SudokuGrader x) {
        Map<String, Integer> all = new LinkedHashMap<>();
        all.put("claim(13, 0, 0)", x.claim(13, 0, 0));
        all.put("node(0)", x.node(0));
        all.put("search(0)", x.search(0));
        all.put("search(7)", x.search(7));
        all.put("searched(1)", x.searched(1));
        all.put("grade(2)", x.grade(2));
        all.put("told(3)", x.told(3));
        all.put("told(4)", x.told(4));
        all.put("replay(0)", x.replay(0));
        all.put("replay of the last one", x.replay(Math.max(0, x.told(0) - 1)));
        return all;
    }
}
