import java.util.ArrayList;
import java.util.List;

/** Promises 4, 6, 7, 8 and 9: grade, told, step, gone, link. */
public final class GradeTest {
    private static final Check CHECK = new Check();
    private static final int[] WEIGHTS = {1, 2, 4, 5, 6, 8, 9, 12, 14, 16, 20, 18, 24, 30};

    public static void main(String[] args) {
        oneSingle();
        oneHiddenSingle();
        stepsCountedPerCall();
        refusedNumbers();
        endIsFoundByLooking();
        brokenGrid();
        for (String known : Puzzles.KNOWN) {
            tracesAddUp(known);
        }
        chainIsTold();
        askedBeyond();
        CHECK.end();
    }

    private static void tell(String name, SudokuGrader x, int... want) {
        for (int what = 0; what < want.length; what++) {
            CHECK.due(name + ": told(" + what + ")", x.told(what), want[what]);
        }
    }

    private static void stepIs(String name, SudokuGrader x, int i, int... want) {
        for (int what = 0; what < want.length; what++) {
            CHECK.due(name + ": step(" + i + ", " + what + ")", x.step(i, what), want[what]);
        }
    }

    private static void oneSingle() {
        SudokuGrader x = new SudokuGrader();
        x.give(40, 5);
        CHECK.due("grade(30) of one digit", x.grade(30), 1);
        tell("one digit", x, 1, 1, 0, 20, 1);
        stepIs("one digit", x, 0, 0, 40, 5, 20, 0);
        int[] peers = {4, 13, 22, 30, 31, 32, 36, 37, 38, 39, 41, 42, 43, 44, 48, 49, 50, 58, 67, 76};
        for (int k = 0; k < 20; k++) {
            CHECK.due("gone(0, " + k + ")", x.gone(0, k), 9 * peers[k] + 4);
        }
        CHECK.due("gone(0, 20)", x.gone(0, 20), -1);
        CHECK.due("gone(0, -1)", x.gone(0, -1), -1);
        CHECK.due("link(0, 0) of no chain", x.link(0, 0), -1);
    }

    /** Four ones leave row 0 one cell for the digit 1; it is also the last one of box 18. */
    private static void oneHiddenSingle() {
        SudokuGrader x = new SudokuGrader();
        x.give(12, 1);
        x.give(24, 1);
        x.give(37, 1);
        x.give(65, 1);
        CHECK.due("grade(4)", x.grade(4), 4);
        tell("four singles", x, 4, 4, 0, x.told(3), 0);
        CHECK.due("grade(1)", x.grade(1), 1);
        stepIs("hidden single", x, 4, 1, 0, 1, 8, 0);
        for (int k = 0; k < 8; k++) {
            CHECK.due("gone(4, " + k + ")", x.gone(4, k), k + 1);
        }
        tell("hidden single", x, 5, 6, 1);
        CHECK.due("cell 0", x.candidates(0, 0), 1);
    }

    private static void stepsCountedPerCall() {
        SudokuGrader x = Grids.of(Grids.EASY);
        CHECK.due("grade(0)", x.grade(0), 0);
        CHECK.due("grade(1)", x.grade(1), 1);
        CHECK.due("grade(29)", x.grade(29), 29);
        CHECK.due("grade(30)", x.grade(30), 30);
        tell("60 of 64", x, 60, 60, 0, 402, 0);
        CHECK.due("grade(30) again", x.grade(30), 4);
        tell("all 64", x, 64, 64, 0, 408, 1);
        CHECK.due("grade(30) at the end", x.grade(30), 0);
    }

    private static void refusedNumbers() {
        SudokuGrader x = Grids.of(Grids.EASY);
        int[] wrong = {-1, 31, Integer.MIN_VALUE, Integer.MAX_VALUE};
        for (int n : wrong) {
            CHECK.due("grade(" + n + ")", x.grade(n), -1);
        }
        tell("nothing done", x, 0, 0, -1, 0, 0);
        CHECK.due("told(-1)", x.told(-1), -1);
        CHECK.due("told(5)", x.told(5), -1);
        CHECK.due("told(MAX)", x.told(Integer.MAX_VALUE), -1);
        CHECK.due("told(MIN)", x.told(Integer.MIN_VALUE), -1);
    }

    private static void endIsFoundByLooking() {
        SudokuGrader x = Grids.of(Grids.EASY);
        x.grade(30);
        x.grade(30);
        CHECK.due("grade(4): just the last ones", x.grade(4), 4);
        CHECK.due("told(4): none was looked for", x.told(4), 0);
        CHECK.due("grade(0)", x.grade(0), 0);
        CHECK.due("told(4): still none was looked for", x.told(4), 0);
        CHECK.due("grade(1)", x.grade(1), 0);
        CHECK.due("told(4)", x.told(4), 1);
    }

    /** Two equal digits in a row: the first takes the second away, and grading goes on. */
    private static void brokenGrid() {
        SudokuGrader x = new SudokuGrader();
        x.give(0, 5);
        x.give(8, 5);
        CHECK.due("grade(1)", x.grade(1), 1);
        stepIs("broken", x, 0, 0, 0, 5, 20, 0);
        CHECK.due("cell 8 is empty", x.candidates(8, 0), 0);
        CHECK.due("grade(30)", x.grade(30), 0);
        CHECK.due("told(4)", x.told(4), 1);
    }

    /** What is told of the steps adds up to what is told of the trace and to the candidates. */
    private static void tracesAddUp(String puzzle) {
        int score = 0;
        int level = -1;
        List<Integer> all = new ArrayList<>();
        int steps = Grids.graded(puzzle).told(0);
        for (int i = 0; i < steps; i++) {
            SudokuGrader x = Grids.graded(puzzle);
            int rule = x.step(i, 0);
            score += WEIGHTS[rule];
            level = Math.max(level, rule);
            all.addAll(goneBy(x, i));
            CHECK.due("nodes of a chain", x.step(i, 4), rule == 13 ? 2 * x.step(i, 1) : 0);
        }
        SudokuGrader x = Grids.graded(puzzle);
        tell(puzzle, x, steps, score, level, all.size(), 1);
        for (int cell = 0; cell < 81; cell++) {
            int left = x.candidates(cell, 2);
            for (int d = 0; d < 9; d++) {
                left &= all.contains(9 * cell + d) ? ~(1 << d) : -1;
            }
            CHECK.due("cell " + cell, x.candidates(cell, 0), left);
        }
    }

    private static List<Integer> goneBy(SudokuGrader x, int i) {
        List<Integer> gone = new ArrayList<>();
        int count = x.step(i, 3);
        for (int k = 0; k < count; k++) {
            gone.add(x.gone(i, k));
            CHECK.due("rising", k == 0 || gone.get(k - 1) < gone.get(k), true);
        }
        CHECK.due("no more", x.gone(i, count), -1);
        return gone;
    }

    private static void chainIsTold() {
        SudokuGrader x = Grids.graded(Puzzles.KNOWN[4]);
        CHECK.due("level", x.told(2), 13);
        int steps = x.told(0);
        int chains = 0;
        for (int i = 0; i < steps; i++) {
            if (x.step(i, 0) == 13) {
                chains++;
                int nodes = x.step(i, 4);
                CHECK.due("q is the first node", x.step(i, 2), x.link(i, 0));
                CHECK.due("the last node is there", x.link(i, nodes - 1) >= 0, true);
                CHECK.due("no node more", x.link(i, nodes), -1);
                CHECK.due("no node ahead", x.link(i, -1), -1);
            } else {
                CHECK.due("no chain, no node", x.link(i, 0), -1);
            }
        }
        CHECK.due("there are chains", chains > 0, true);
    }

    private static void askedBeyond() {
        SudokuGrader x = Grids.graded(Grids.EASY);
        int[] wrong = {-1, 64, 65, 728, 729, Integer.MIN_VALUE, Integer.MAX_VALUE};
        for (int i : wrong) {
            CHECK.due("step(" + i + ", 0)", x.step(i, 0), -1);
            CHECK.due("gone(" + i + ", 0)", x.gone(i, 0), -1);
            CHECK.due("link(" + i + ", 0)", x.link(i, 0), -1);
            CHECK.due("gone(0, " + i + ")", x.gone(0, i), -1);
            CHECK.due("link(0, " + i + ")", x.link(0, i), -1);
        }
        int[] whats = {-1, 5, Integer.MIN_VALUE, Integer.MAX_VALUE};
        for (int what : whats) {
            CHECK.due("step(0, " + what + ")", x.step(0, what), -1);
        }
        CHECK.due("step(63, 3)", x.step(63, 3) > 0, true);
    }
}
