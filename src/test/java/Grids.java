/** What several tests do to a grader, in one place. */
final class Grids {
    /** 64 singles solve it. */
    static final String EASY = Puzzles.KNOWN[0];
    /** One solution, after some tries. */
    static final String HARD = Puzzles.KNOWN[1];

    private Grids() {
    }

    static SudokuGrader of(String text) {
        SudokuGrader x = new SudokuGrader();
        putRows(x, text);
        return x;
    }

    static void putRows(SudokuGrader x, String text) {
        for (int r = 0; r < 9; r++) {
            x.row(r, Integer.parseInt(text.substring(9 * r, 9 * r + 9)));
        }
    }

    static SudokuGrader graded(String text) {
        SudokuGrader x = of(text);
        gradeOn(x);
        return x;
    }

    static void gradeOn(SudokuGrader x) {
        for (int i = 0; i < 30 && x.told(4) == 0; i++) {
            x.grade(30);
        }
    }

    /** Bits of the given places. */
    static int bits(int... places) {
        int all = 0;
        for (int place : places) {
            all |= 1 << place;
        }
        return all;
    }
}
