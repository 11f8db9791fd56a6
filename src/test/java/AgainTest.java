/** A used object with new given digits answers as a new object does (Part 5's last line). */
public final class AgainTest {
    private static final Check CHECK = new Check();

    public static void main(String[] args) {
        String[] all = Puzzles.RARE;
        for (int a = 0; a < all.length; a++) {
            for (int b = 0; b < all.length; b++) {
                sameTrace(all[a], all[b]);
                sameSearch(all[a], all[b]);
            }
        }
        manyRounds(all[8]);
        CHECK.end();
    }

    private static SudokuGrader used(String before) {
        SudokuGrader x = Grids.graded(before);
        x.replay(0);
        x.search(7);
        x.node(1);
        return x;
    }

    private static void sameTrace(String before, String puzzle) {
        SudokuGrader x = used(before);
        SudokuGrader y = Grids.graded(puzzle);
        Grids.putRows(x, puzzle);
        Grids.gradeOn(x);
        int steps = y.told(0);
        for (int what = 0; what < 5; what++) {
            CHECK.due("told(" + what + ")", x.told(what), y.told(what));
        }
        for (int i = 0; i < steps; i++) {
            CHECK.due("step(" + i + ", 0)", x.step(i, 0), y.step(i, 0));
            CHECK.due("step(" + i + ", 2)", x.step(i, 2), y.step(i, 2));
            CHECK.due("gone(" + i + ", 0)", x.gone(i, 0), y.gone(i, 0));
            CHECK.due("link(" + i + ", 2)", x.link(i, 2), y.link(i, 2));
        }
        CHECK.due("replay(0)", x.replay(0), steps);
    }

    private static void sameSearch(String before, String puzzle) {
        SudokuGrader x = used(before);
        SudokuGrader y = Grids.of(puzzle);
        Grids.putRows(x, puzzle);
        CHECK.due("searched(0)", x.searched(0), 0);
        CHECK.due("searched(1)", x.searched(1), 0);
        for (int n = 0; n < 10; n++) {
            CHECK.due("search(" + n + ")", x.search(n), y.search(n));
            CHECK.due("searched(1)", x.searched(1), y.searched(1));
        }
        for (int cell = 0; cell < 81; cell++) {
            CHECK.due("solution(0, " + cell + ")", x.solution(0, cell), y.solution(0, cell));
        }
    }

    /** What the trace keeps of chains must not add up over the rounds. */
    private static void manyRounds(String puzzle) {
        SudokuGrader x = Grids.of(puzzle);
        int digit = puzzle.charAt(1) - '0';
        for (int round = 0; round < 145; round++) {
            x.give(1, digit);
            x.grade(30);
            x.grade(30);
        }
        SudokuGrader y = Grids.of(puzzle);
        y.grade(30);
        y.grade(30);
        int chains = 0;
        for (int i = 0; i < 60; i++) {
            CHECK.due("link(" + i + ", 0)", x.link(i, 0), y.link(i, 0));
            chains += y.link(i, 0) >= 0 ? 1 : 0;
        }
        CHECK.due("there are chains", chains > 0, true);
    }
}
