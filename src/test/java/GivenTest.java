/** Promises 1, 2, 3 and 5: a new object, give, row, candidates; and what a new given digit undoes. */
public final class GivenTest {
    private static final Check CHECK = new Check();

    public static void main(String[] args) {
        newObject();
        giveOrdinary();
        giveRefused();
        rowOrdinary();
        rowRefused();
        candidatesRefused();
        candidatesOfThree();
        allAsAtFirst(0);
        allAsAtFirst(1);
        allAsAtFirst(2);
        refusedOnesUndoNothing();
        CHECK.end();
    }

    private static void newObject() {
        SudokuGrader x = new SudokuGrader();
        for (int cell = 0; cell < 81; cell++) {
            for (int who = 0; who < 3; who++) {
                CHECK.due("new: candidates(" + cell + ", " + who + ")", x.candidates(cell, who), 511);
            }
        }
        int[] told = {0, 0, -1, 0, 0};
        for (int what = 0; what < 5; what++) {
            CHECK.due("new: told(" + what + ")", x.told(what), told[what]);
        }
        CHECK.due("new: step(0, 0)", x.step(0, 0), -1);
        CHECK.due("new: gone(0, 0)", x.gone(0, 0), -1);
        CHECK.due("new: link(0, 0)", x.link(0, 0), -1);
        CHECK.due("new: searched(0)", x.searched(0), 0);
        CHECK.due("new: searched(1)", x.searched(1), 0);
        CHECK.due("new: searched(2)", x.searched(2), -1);
        CHECK.due("new: solution(0, 0)", x.solution(0, 0), -1);
        CHECK.due("new: replay(0)", x.replay(0), 0);
        CHECK.due("new: grade(30)", x.grade(30), 0);
        CHECK.due("new: told(4) after grade", x.told(4), 1);
    }

    private static void giveOrdinary() {
        SudokuGrader x = new SudokuGrader();
        for (int digit = 1; digit <= 9; digit++) {
            CHECK.due("give(0, " + digit + ")", x.give(0, digit), true);
            CHECK.due("candidates(0, 2) of " + digit, x.candidates(0, 2), 1 << (digit - 1));
        }
        CHECK.due("give(80, 1)", x.give(80, 1), true);
        CHECK.due("candidates(80, 0)", x.candidates(80, 0), 1);
        CHECK.due("give(0, 0)", x.give(0, 0), true);
        CHECK.due("candidates(0, 2) of none any more", x.candidates(0, 2), 511);
        CHECK.due("candidates(80, 2) still", x.candidates(80, 2), 1);
        CHECK.due("candidates(79, 0): no rule has run", x.candidates(79, 0), 511);
    }

    private static void giveRefused() {
        SudokuGrader x = new SudokuGrader();
        x.give(3, 4);
        int[][] wrong = {{-1, 1}, {81, 1}, {0, -1}, {0, 10}, {3, 10}, {Integer.MIN_VALUE, 5},
            {Integer.MAX_VALUE, 5}, {5, Integer.MIN_VALUE}, {5, Integer.MAX_VALUE}, {-1, 0}, {81, 0}};
        for (int[] w : wrong) {
            CHECK.due("give(" + w[0] + ", " + w[1] + ")", x.give(w[0], w[1]), false);
        }
        for (int cell = 0; cell < 81; cell++) {
            CHECK.due("candidates(" + cell + ", 2) after refusals", x.candidates(cell, 2), cell == 3 ? 8 : 511);
        }
    }

    private static void rowOrdinary() {
        SudokuGrader x = new SudokuGrader();
        CHECK.due("row(8, 102003009)", x.row(8, 102003009), true);
        int[] bits = {1, 511, 2, 511, 511, 4, 511, 511, 256};
        for (int k = 0; k < 9; k++) {
            CHECK.due("row 8, cell " + k, x.candidates(72 + k, 2), bits[k]);
        }
        CHECK.due("row(8, 7)", x.row(8, 7), true);
        for (int k = 0; k < 9; k++) {
            CHECK.due("row 8 anew, cell " + k, x.candidates(72 + k, 2), k == 8 ? 64 : 511);
        }
        CHECK.due("row(0, 999999999)", x.row(0, 999999999), true);
        CHECK.due("candidates(0, 2) of 9", x.candidates(0, 2), 256);
        CHECK.due("candidates(8, 2) of 9", x.candidates(8, 2), 256);
        CHECK.due("row(0, 0)", x.row(0, 0), true);
        CHECK.due("candidates(0, 2) of 0", x.candidates(0, 2), 511);
        CHECK.due("candidates(80, 2) untouched", x.candidates(80, 2), 64);
    }

    private static void rowRefused() {
        SudokuGrader x = new SudokuGrader();
        x.row(4, 123456789);
        int[][] wrong = {{-1, 1}, {9, 1}, {4, -1}, {4, 1000000000}, {4, Integer.MIN_VALUE},
            {4, Integer.MAX_VALUE}, {Integer.MIN_VALUE, 1}, {Integer.MAX_VALUE, 1}};
        for (int[] w : wrong) {
            CHECK.due("row(" + w[0] + ", " + w[1] + ")", x.row(w[0], w[1]), false);
        }
        for (int cell = 0; cell < 81; cell++) {
            int want = cell / 9 == 4 ? 1 << cell % 9 : 511;
            CHECK.due("candidates(" + cell + ", 2) after refusals", x.candidates(cell, 2), want);
        }
    }

    private static void candidatesRefused() {
        SudokuGrader x = new SudokuGrader();
        int[][] wrong = {{-1, 0}, {81, 0}, {0, -1}, {0, 3}, {Integer.MIN_VALUE, 1}, {Integer.MAX_VALUE, 2},
            {5, Integer.MIN_VALUE}, {5, Integer.MAX_VALUE}};
        for (int[] w : wrong) {
            CHECK.due("candidates(" + w[0] + ", " + w[1] + ")", x.candidates(w[0], w[1]), -1);
        }
    }

    private static void candidatesOfThree() {
        SudokuGrader x = new SudokuGrader();
        x.give(0, 1);
        x.give(80, 2);
        x.grade(1);
        x.claim(0, 80, 2);
        CHECK.due("now, by a step", x.candidates(1, 0), 510);
        CHECK.due("checker, no claim there", x.candidates(1, 1), 511);
        CHECK.due("at first", x.candidates(1, 2), 511);
        CHECK.due("now, no step there", x.candidates(79, 0), 511);
        CHECK.due("checker, by a claim", x.candidates(79, 1), 509);
        CHECK.due("at first", x.candidates(79, 2), 511);
    }

    /** By 0 a digit is given, by 1 one is taken away, by 2 a row is given. */
    private static void allAsAtFirst(int way) {
        SudokuGrader x = Grids.of(Grids.EASY);
        x.grade(30);
        x.replay(0);
        x.node(5);
        x.search(0);
        CHECK.due("search ended ahead", x.searched(0), 1);
        boolean done = way == 0 ? x.give(2, 4) : way == 1 ? x.give(0, 0) : x.row(0, 534678912);
        CHECK.due("accepted", done, true);
        int[] told = {0, 0, -1, 0, 0};
        for (int what = 0; what < 5; what++) {
            CHECK.due("anew: told(" + what + ")", x.told(what), told[what]);
        }
        for (int cell = 0; cell < 81; cell++) {
            CHECK.due("anew: now " + cell, x.candidates(cell, 0), x.candidates(cell, 2));
            CHECK.due("anew: checker " + cell, x.candidates(cell, 1), x.candidates(cell, 2));
        }
        CHECK.due("anew: step(0, 0)", x.step(0, 0), -1);
        CHECK.due("anew: gone(0, 0)", x.gone(0, 0), -1);
        CHECK.due("anew: replay(1)", x.replay(1), -1);
        CHECK.due("anew: searched(0)", x.searched(0), 0);
        CHECK.due("anew: searched(2)", x.searched(2), -1);
        CHECK.due("anew: solution(0, 0)", x.solution(0, 0), -1);
        CHECK.due("anew: node(7)", x.node(7), 1);
        CHECK.due("anew: grade(30)", x.grade(30), 30);
    }

    private static void refusedOnesUndoNothing() {
        SudokuGrader x = Grids.of(Grids.EASY);
        x.grade(30);
        x.replay(0);
        x.node(5);
        x.search(0);
        x.give(81, 1);
        x.give(0, 10);
        x.row(9, 0);
        x.row(0, -1);
        CHECK.due("told(0) stays", x.told(0), 30);
        CHECK.due("searched(0) stays", x.searched(0), 1);
        CHECK.due("checker stays", x.candidates(1, 1), x.candidates(1, 0));
        CHECK.due("node stays", x.node(6), 2);
    }
}
