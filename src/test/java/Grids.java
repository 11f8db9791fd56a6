/** What several tests do to a grader, in one place. */
final class Grids {
    /** 64 singles solve it. */
    static final String EASY = Puzzles.KNOWN[0];
    /** One solution, after some tries. */
    static final String HARD = Puzzles.KNOWN[1];

    private Grids() {
    }

    static SudokuGrader of(String text) {
        SudokuGrader x = new SudokuGrader();
        for (int r = 0; r < 9; r++) {
            x.row(r, Integer.parseInt(text.substring(9 * r, 9 * r + 9)));
        }
        return x;
    }

    static SudokuGrader graded(String text) {
        SudokuGrader x = of(text);
        for (int i = 0; i < 30; i++) {
            x.grade(30);
        }
        return x;
    }

    /** Bits of the given places. */
    static int bits(int... places) {
        int all = 0;
        for (int place : places) {
            all |= 1 << place;
        }
        return all;
    }
}
