/** An object's use as a whole, and its boundary: the 512th call is answered as the first ones are. */
public final class EdgeUseTest {
    private static final Edges EDGES = new Edges();
    private static final int MOST_CALLS = 512;

    public static void main(String[] args) {
        noneIsThere();
        EDGES.says("What it is", "A grader of sudokus: candidates go by named rules, the first that has an instance each "
                + "time; each step is written down and can be claimed before a checker that knows the rules alone; what "
                + "is left is searched for one, two or no solutions.");
        stepsClaimedElsewhere(Puzzles.KNOWN[4]);
        stepsClaimedElsewhere(Puzzles.RARE[3]);
        stepsClaimedElsewhere(Puzzles.RARE[5]);
        oneTwoOrNoSolutions();
        EDGES.says("What it is", "An object is used for at most 512 calls after it has been made; what later calls answer "
                + "is free.");
        manyTries();
        manySteps();
        manyClaims();
        EDGES.end();
    }

    private static void noneIsThere() {
        EDGES.says("The constants", "`NONE = -1`: There is none.");
        EDGES.due("NONE", SudokuGrader.NONE, -1);
        SudokuGrader x = new SudokuGrader();
        EDGES.due("told(2) without steps", x.told(2), SudokuGrader.NONE);
        EDGES.due("step(0, 0) without steps", x.step(0, 0), SudokuGrader.NONE);
        EDGES.due("solution(0, 0) without a search", x.solution(0, 0), SudokuGrader.NONE);
    }

    /** What one object writes down is claimed before the checker of another, which never graded. */
    private static void stepsClaimedElsewhere(String puzzle) {
        SudokuGrader checker = Grids.of(puzzle);
        int steps = Grids.graded(puzzle).told(0);
        for (int i = 0; i < steps; i++) {
            SudokuGrader x = Grids.graded(puzzle);
            int nodes = x.step(i, 4);
            for (int k = 0; k < nodes; k++) {
                checker.node(x.link(i, k));
            }
            int went = checker.claim(x.step(i, 0), x.step(i, 1), x.step(i, 2));
            EDGES.due("the claim of step " + i, went, x.step(i, 3));
            for (int k = 0; k < went; k++) {
                int node = x.gone(i, k);
                EDGES.due("node " + node + " by step " + i, checker.candidates(node / 9, 1) >> node % 9 & 1, 0);
            }
        }
        SudokuGrader x = Grids.graded(puzzle);
        for (int cell = 0; cell < 81; cell++) {
            EDGES.due("candidates(" + cell + ", ..)", checker.candidates(cell, 1), x.candidates(cell, 0));
        }
        EDGES.due("told(0)", checker.told(0), 0);
    }

    private static void oneTwoOrNoSolutions() {
        EDGES.due("search(300) of one", Grids.of(Grids.HARD).search(300), 1);
        EDGES.due("search(300) of two", Grids.of(Grids.TWO).search(300), 2);
        EDGES.due("search(300) of four", Grids.of(Grids.FOUR).search(300), 2);
        SudokuGrader none = new SudokuGrader();
        none.row(0, 5000005);
        EDGES.due("search(300) of none", none.search(300), 0);
    }

    private static void manyTries() {
        SudokuGrader x = Grids.of(Puzzles.ENDLESS);
        int calls = 9;
        int tries = 0;
        while (calls < MOST_CALLS - 3) {
            x.search(300);
            calls++;
            tries += 300;
        }
        EDGES.due("call 510, searched(0)", x.searched(0), 0);
        EDGES.due("call 511, searched(1)", x.searched(1), tries);
        EDGES.due("call 512, search(0)", x.search(0), 0);
    }

    /** All steps again and again: what one round keeps must not be added to the next one's. */
    private static void manySteps() {
        SudokuGrader x = Grids.of(Grids.CHAINS);
        int digit = Grids.CHAINS.charAt(1) - '0';
        int calls = 9;
        while (calls < MOST_CALLS - 11) {
            x.give(1, digit);
            x.grade(30);
            x.grade(30);
            x.grade(30);
            EDGES.due("call " + (calls + 5) + ", grade(30)", x.grade(30), 26);
            EDGES.due("call " + (calls + 6) + ", replay(0)", x.replay(0), 116);
            calls += 6;
        }
        while (calls < MOST_CALLS) {
            calls++;
            EDGES.due("call " + calls + ", told(0)", x.told(0), 116);
        }
    }

    /** Row 0 has 9 in cells 0 and 1 alone: a chain, as long as it may be, that is taken once. */
    private static void manyClaims() {
        SudokuGrader x = new SudokuGrader();
        x.row(0, 1234567);
        int calls = 1;
        while (calls < MOST_CALLS - 11) {
            for (int i = 1; i <= 24; i++) {
                EDGES.due("call " + (calls + i) + ", node", x.node(i % 2 == 1 ? 8 : 17), i);
            }
            EDGES.due("call " + (calls + 25) + ", claim(13, 0, 0)", x.claim(13, 0, 0), calls == 1 ? 6 : -1);
            calls += 25;
        }
        while (calls < MOST_CALLS) {
            calls++;
            EDGES.due("call " + calls + ", candidates(20, 1)", x.candidates(20, 1), 255);
        }
    }
}
