import java.util.Arrays;

/** Promises 13, 14 and 15: search, searched, solution. */
public final class SearchTest {
    private static final Check CHECK = new Check();

    public static void main(String[] args) {
        refusedNumbers();
        solvedByClosing();
        contradiction();
        missingDigit();
        emptyGrid();
        oneSolution();
        endsWithTheLastTry();
        countedTogether();
        askedBeyond();
        apartFromGrading();
        CHECK.end();
    }

    private static void tell(String name, SudokuGrader x, int... want) {
        for (int what = 0; what < want.length; what++) {
            CHECK.due(name + ": searched(" + what + ")", x.searched(what), want[what]);
        }
    }

    private static void refusedNumbers() {
        SudokuGrader x = Grids.of(Grids.EASY);
        int[] wrong = {-1, 301, Integer.MIN_VALUE, Integer.MAX_VALUE};
        for (int n : wrong) {
            CHECK.due("search(" + n + ")", x.search(n), -1);
        }
        tell("not begun", x, 0, 0, -1, -1);
        CHECK.due("searched(-1)", x.searched(-1), -1);
        CHECK.due("searched(MAX)", x.searched(Integer.MAX_VALUE), -1);
        CHECK.due("searched(MIN)", x.searched(Integer.MIN_VALUE), -1);
    }

    private static void solvedByClosing() {
        SudokuGrader x = Grids.of(Grids.EASY);
        CHECK.due("search(0)", x.search(0), 1);
        tell("closed", x, 1, 0, 1);
        String digits = "534678912672195348198342567859761423426853791713924856961537284287419635345286179";
        for (int cell = 0; cell < 81; cell++) {
            CHECK.due("solution(0, " + cell + ")", x.solution(0, cell), digits.charAt(cell) - '0');
        }
        CHECK.due("solution(1, 0)", x.solution(1, 0), -1);
        CHECK.due("search(300) after the end", x.search(300), 1);
        tell("closed still", x, 1, 0, 1);
    }

    private static void contradiction() {
        SudokuGrader x = new SudokuGrader();
        x.give(0, 5);
        x.give(80 - 72, 5);
        CHECK.due("search(0)", x.search(0), 0);
        tell("two equal digits", x, 1, 0, 0);
        CHECK.due("solution(0, 0)", x.solution(0, 0), -1);
    }

    /** Nothing goes at first here: each cell of the row is given, but no cell has a 9. */
    private static void missingDigit() {
        SudokuGrader x = new SudokuGrader();
        for (int r = 0; r < 9; r++) {
            x.row(r, 123456781);
        }
        CHECK.due("search(10)", x.search(10), 0);
        tell("no 9", x, 1, 0, 0);
    }

    private static int[] digitsOf(SudokuGrader x, int k) {
        int[] digits = new int[81];
        for (int cell = 0; cell < 81; cell++) {
            digits[cell] = x.solution(k, cell);
        }
        return digits;
    }

    private static void isSolution(int[] digits, int[] given) {
        for (int house = 0; house < 27; house++) {
            int seen = 0;
            for (int cell : Plain.HOUSES.get(house)) {
                seen |= 1 << digits[cell];
            }
            CHECK.due("digits of house " + house, seen, 1022);
        }
        for (int cell = 0; cell < 81; cell++) {
            CHECK.due("given digit of " + cell, given[cell] == 0 || given[cell] == digits[cell], true);
        }
    }

    private static void emptyGrid() {
        SudokuGrader x = new SudokuGrader();
        CHECK.due("search(0)", x.search(0), 0);
        tell("begun", x, 0, 0, -1);
        CHECK.due("search(1)", x.search(1), 0);
        tell("one try", x, 0, 1, -1);
        CHECK.due("search(300)", x.search(300), 2);
        CHECK.due("ended", x.searched(0), 1);
        CHECK.due("not just one", x.searched(2), 0);
        int[] first = digitsOf(x, 0);
        int[] second = digitsOf(x, 1);
        isSolution(first, new int[81]);
        isSolution(second, new int[81]);
        CHECK.due("they are two", Arrays.equals(first, second), false);
        for (int cell = 0; cell < 9; cell++) {
            CHECK.due("rising tries, cell " + cell, first[cell], cell + 1);
        }
        int tries = x.searched(1);
        CHECK.due("search(300) after the end", x.search(300), 2);
        CHECK.due("no more tries", x.searched(1), tries);
        CHECK.due("solution(2, 0)", x.solution(2, 0), -1);
    }

    private static int triesOf(String puzzle) {
        SudokuGrader x = Grids.of(puzzle);
        for (int i = 0; i < 100 && x.searched(0) == 0; i++) {
            x.search(300);
        }
        return x.searched(1);
    }

    private static void oneSolution() {
        for (String known : Puzzles.KNOWN) {
            SudokuGrader x = Grids.of(known);
            for (int i = 0; i < 100 && x.searched(0) == 0; i++) {
                x.search(300);
            }
            tell(known, x, 1, x.searched(1), 1);
            isSolution(digitsOf(x, 0), Puzzles.of(known));
            CHECK.due("solution(1, 0)", x.solution(1, 0), -1);
        }
    }

    private static void endsWithTheLastTry() {
        int all = triesOf(Grids.HARD);
        CHECK.due("there are tries", all > 1 && all <= 300, true);
        SudokuGrader x = Grids.of(Grids.HARD);
        x.search(all - 1);
        tell("one try left", x, 0, all - 1, -1);
        x.search(1);
        tell("none left", x, 1, all, 1);
    }

    private static void countedTogether() {
        int all = triesOf(Grids.HARD);
        SudokuGrader whole = Grids.of(Grids.HARD);
        whole.search(300);
        SudokuGrader x = Grids.of(Grids.HARD);
        int before = 0;
        for (int i = 1; i <= all; i++) {
            int found = x.search(1);
            CHECK.due("tries", x.searched(1), i);
            CHECK.due("solutions found stay found", found >= before, true);
            before = found;
        }
        CHECK.due("search(0) tells all that were found", x.search(0), 1);
        tell("by ones", x, 1, all, 1);
        for (int cell = 0; cell < 81; cell++) {
            CHECK.due("solution(0, " + cell + ")", x.solution(0, cell), whole.solution(0, cell));
        }
    }

    private static void askedBeyond() {
        SudokuGrader x = Grids.of(Grids.EASY);
        CHECK.due("solution(0, 0) ahead of a search", x.solution(0, 0), -1);
        x.search(0);
        int[][] wrong = {{-1, 0}, {1, 0}, {2, 0}, {0, -1}, {0, 81}, {Integer.MIN_VALUE, 0},
            {Integer.MAX_VALUE, 0}, {0, Integer.MIN_VALUE}, {0, Integer.MAX_VALUE}};
        for (int[] w : wrong) {
            CHECK.due("solution(" + w[0] + ", " + w[1] + ")", x.solution(w[0], w[1]), -1);
        }
    }

    private static void apartFromGrading() {
        SudokuGrader x = Grids.of(Grids.HARD);
        x.search(20);
        for (int cell = 0; cell < 81; cell++) {
            CHECK.due("now " + cell, x.candidates(cell, 0), x.candidates(cell, 2));
            CHECK.due("checker " + cell, x.candidates(cell, 1), x.candidates(cell, 2));
        }
        SudokuGrader graded = Grids.graded(Grids.HARD);
        graded.search(20);
        CHECK.due("tries", graded.searched(1), 20);
        graded.search(280);
        x.search(280);
        CHECK.due("the same search", graded.searched(1), x.searched(1));
    }
}
