/** What several tests do to a grader, in one place. */
final class Grids {
    /** 64 singles solve it. */
    static final String EASY = Puzzles.KNOWN[0];
    /** One solution, after some tries. */
    static final String HARD = Puzzles.KNOWN[1];
    /** Many steps are chains; its one solution is found ahead of the search's end. */
    static final String CHAINS = Puzzles.RARE[8];
    /** EASY's solution. */
    static final String SOLVED = "534678912672195348198342567859761423426853791713924856961537284287419635345286179";
    /** SOLVED without cells 3, 4, 30, 31, which have 6 and 7 either way: two solutions. */
    static final String TWO = without(SOLVED, 3, 4, 30, 31);
    /** TWO without cells 22, 23, 49, 50, which have 2 and 4 either way: four solutions. */
    static final String FOUR = without(TWO, 22, 23, 49, 50);

    private Grids() {
    }

    static SudokuGrader of(String text) {
        SudokuGrader x = new SudokuGrader();
        putRows(x, text);
        return x;
    }

    static void putRows(SudokuGrader x, String text) {
        for (int r = 0; r < 9; r++) {
            x.row(r, Integer.parseInt(text.substring(9 * r, 9 * r + 9)));
        }
    }

    static void putRows(Plain plain, String text) {
        for (int r = 0; r < 9; r++) {
            plain.row(r, Integer.parseInt(text.substring(9 * r, 9 * r + 9)));
        }
    }

    static SudokuGrader graded(String text) {
        SudokuGrader x = of(text);
        gradeOn(x);
        return x;
    }

    static void gradeOn(SudokuGrader x) {
        for (int i = 0; i < 30 && x.told(4) == 0; i++) {
            x.grade(30);
        }
    }

    /** The grid with no given digits in these cells. */
    static String without(String text, int... cells) {
        char[] digits = text.toCharArray();
        for (int cell : cells) {
            digits[cell] = '0';
        }
        return new String(digits);
    }

    /** Bits of the given places. */
    static int bits(int... places) {
        int all = 0;
        for (int place : places) {
            all |= 1 << place;
        }
        return all;
    }
}
