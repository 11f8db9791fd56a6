/** Boundary cases of promises 10, 11 and 12, and of Part 4. */
public final class EdgeClaimTest {
    private static final Edges EDGES = new Edges();
    private static final int LEAST = Edges.LEAST;
    private static final int GREATEST = Edges.GREATEST;

    public static void main(String[] args) {
        nodesCounted();
        twentyFourNodes();
        nodeRefused();
        nodeBeyondTwentyFour();
        claimCounted();
        claimRefused();
        chainTakesNodesAway();
        othersLeaveNodes();
        checkerOfItsOwn();
        atTheCheckersCandidates();
        rowOfNodesAlone();
        replayFromTheFirstOn();
        replayFromTheMiddleOn();
        replayTillOneIsNotTaken();
        replayOfNothing();
        replayRefused();
        replayTakesNodesAway();
        EDGES.end();
    }

    private static void node(SudokuGrader x, int n, int want) {
        EDGES.due("node(" + n + ")", x.node(n), want);
    }

    private static void claim(SudokuGrader x, int rule, int p, int q, int want) {
        EDGES.due("claim(" + rule + ", " + p + ", " + q + ")", x.claim(rule, p, q), want);
    }

    private static void replay(SudokuGrader x, int i, int want) {
        EDGES.due("replay(" + i + ")", x.replay(i), want);
    }

    /** Cells 0 and 1 are all of row 0 that have 9: nodes 8 and 17 are a chain by which six candidates go. */
    private static SudokuGrader pair() {
        SudokuGrader x = new SudokuGrader();
        x.row(0, 1234567);
        return x;
    }

    private static void put(SudokuGrader x, int times) {
        for (int i = 0; i < times; i++) {
            x.node(8);
            x.node(17);
        }
    }

    private static void nodesCounted() {
        EDGES.says("Promise 10", "A node for the next claim of a chain: how many there are");
        SudokuGrader x = pair();
        node(x, 0, 1);
        node(x, 728, 2);
        node(x, 728, 3);
        // cell 2 has a given digit: it is a node, though not there
        node(x, 26, 4);
        claim(x, 13, 0, 0, -1);
        node(x, 8, 1);
        node(x, 17, 2);
        claim(x, 13, 0, 0, 6);
    }

    private static void twentyFourNodes() {
        EDGES.says("Promise 10", "A node for the next claim of a chain: how many there are");
        SudokuGrader x = pair();
        for (int i = 1; i <= 24; i++) {
            node(x, i % 2 == 1 ? 8 : 17, i);
        }
        claim(x, 13, 0, 0, 6);
    }

    private static void nodeRefused() {
        EDGES.says("Promise 10", "NONE, doing nothing: it is no node (0 to 728), or there are 24.");
        for (int n : new int[] {-1, 729, -729, LEAST, GREATEST}) {
            EDGES.refused(Call.node(n), -1);
        }
    }

    private static void nodeBeyondTwentyFour() {
        EDGES.says("Promise 10", "NONE, doing nothing: it is no node (0 to 728), or there are 24.");
        for (int n : new int[] {0, 8, 728, -1, 729, LEAST, GREATEST}) {
            EDGES.refusedIn(State.ENDED, Call.node(n), -1);
        }
        SudokuGrader x = pair();
        put(x, 12);
        node(x, 8, -1);
        node(x, 17, -1);
        node(x, 0, -1);
        claim(x, 13, 0, 0, 6);
        node(x, 0, 1);
    }

    private static void claimCounted() {
        EDGES.says("Promise 11", "A CLAIM: how many candidates went");
        SudokuGrader x = new SudokuGrader();
        x.give(0, 1);
        x.give(8, 1);
        // all 20 peers have a 1, one of them nothing else
        claim(x, 0, 0, 1, 20);
        SudokuGrader one = Grids.of(Grids.without(Grids.SOLVED, 0));
        // cell 0 alone is free: one digit goes by each single, and the six that are left by the hidden one
        claim(one, 0, 1, 3, 1);
        claim(one, 0, 2, 4, 1);
        claim(one, 1, 0, 5, 6);
        EDGES.due("candidates(0, 1)", one.candidates(0, 1), 16);
    }

    /** What is no instance does nothing: nor do the nodes go, unless it is of rule 13. */
    private static void claimRefused() {
        EDGES.says("Promise 11", "NONE: it is no instance.");
        int[][] wrong = {{-1, 0, 1}, {14, 0, 1}, {LEAST, 0, 1}, {GREATEST, 0, 1}, {0, 0, 0}, {0, -1, 1}, {0, 81, 1},
            {1, 27, 1}, {1, -1, 1}, {1, 0, 10}, {2, 17, 1}, {2, 27, 1}, {3, 18, 1}, {3, -1, 1}, {4, 27, 3},
            {4, 0, 0}, {5, -1, 3}, {6, 0, 512}, {7, 27, 7}, {8, 0, 3}, {8, 16, 3}, {9, 0, LEAST}, {10, 0, GREATEST},
            {11, 10, 7}, {12, 26, 15}, {12, LEAST, 15}, {9, GREATEST, 15}};
        for (int[] w : wrong) {
            EDGES.refused(Call.claim(w[0], w[1], w[2]), -1);
        }
    }

    private static void chainTakesNodesAway() {
        EDGES.says("Promise 11", "(One of rule 13 takes all nodes away.)");
        SudokuGrader x = pair();
        // none, and none to take
        claim(x, 13, 1, 8, -1);
        node(x, 8, 1);
        // no instance
        claim(x, 13, 1, 8, -1);
        node(x, 8, 1);
        node(x, 17, 2);
        // an instance
        claim(x, 13, 1, 8, 6);
        node(x, 8, 1);
        claim(x, 13, 1, 8, -1);
        // all 24, no instance any more
        put(x, 12);
        claim(x, 13, 1, 8, -1);
        node(x, 8, 1);
    }

    private static void othersLeaveNodes() {
        EDGES.says("Promise 11", "(One of rule 13 takes all nodes away.)");
        SudokuGrader x = pair();
        node(x, 8, 1);
        claim(x, 0, 2, 1, 14);
        claim(x, 0, 2, 1, -1);
        claim(x, 14, 0, 0, -1);
        claim(x, 12, 9, 15, -1);
        node(x, 17, 2);
        claim(x, 13, 0, 0, 6);
    }

    private static void checkerOfItsOwn() {
        EDGES.says("PART 4", "The CHECKER has candidates of its own, as at first.");
        SudokuGrader x = new SudokuGrader();
        x.give(0, 1);
        x.grade(30);
        EDGES.due("candidates(1, 1) after a step", x.candidates(1, 1), 511);
        SudokuGrader y = new SudokuGrader();
        y.give(0, 1);
        y.claim(0, 0, 1);
        EDGES.due("candidates(1, 0) after a claim", y.candidates(1, 0), 511);
        EDGES.due("grade(30)", y.grade(30), 1);
        EDGES.due("told(3)", y.told(3), 20);
    }

    /** 1 is hidden in row 0 once four singles have gone, before the grader; the checker knows of none of them. */
    private static void atTheCheckersCandidates() {
        EDGES.says("PART 4", "if it's an instance at the checker's candidates, what goes is gone there, else nothing.");
        SudokuGrader x = new SudokuGrader();
        x.give(12, 1);
        x.give(24, 1);
        x.give(37, 1);
        x.give(65, 1);
        x.grade(5);
        EDGES.due("step(4, 0)", x.step(4, 0), 1);
        claim(x, 1, 0, 1, -1);
        EDGES.due("candidates(0, 1)", x.candidates(0, 1), 511);
        for (int cell : new int[] {65, 37, 24}) {
            EDGES.due("claim(0, " + cell + ", 1)", x.claim(0, cell, 1) > 0, true);
            claim(x, 1, 0, 1, -1);
        }
        EDGES.due("claim(0, 12, 1)", x.claim(0, 12, 1) > 0, true);
        claim(x, 1, 0, 1, 8);
        EDGES.due("candidates(0, 1)", x.candidates(0, 1), 1);
    }

    private static void rowOfNodesAlone() {
        EDGES.says("PART 4", "A CLAIM is a rule, p and q (of 13 a row of nodes that were put ahead of it; p and q count "
                + "for nothing)");
        int[][] any = {{0, 0}, {-1, -1}, {1, 8}, {12, 728}, {99, 999}, {LEAST, GREATEST}, {GREATEST, LEAST}};
        for (int[] a : any) {
            SudokuGrader x = pair();
            claim(x, 13, a[0], a[1], -1);
            put(x, 1);
            claim(x, 13, a[0], a[1], 6);
        }
    }

    private static void replayFromTheFirstOn() {
        EDGES.says("Promise 12", "The trace is claimed from its STEP i on before the checker, as it is, till one isn't "
                + "taken: how many were.");
        SudokuGrader x = Grids.graded(Grids.CHAINS);
        int steps = x.told(0);
        replay(x, 0, steps);
        for (int cell = 0; cell < 81; cell++) {
            EDGES.due("candidates(" + cell + ", 1)", x.candidates(cell, 1), x.candidates(cell, 0));
        }
        replay(x, 0, 0);
        EDGES.due("told(0)", x.told(0), steps);
    }

    private static void replayFromTheMiddleOn() {
        EDGES.says("Promise 12", "The trace is claimed from its STEP i on before the checker, as it is, till one isn't "
                + "taken: how many were.");
        SudokuGrader x = new SudokuGrader();
        x.give(0, 1);
        x.give(12, 2);
        x.give(40, 3);
        x.give(80, 4);
        EDGES.due("grade(30)", x.grade(30), 4);
        replay(x, 3, 1);
        replay(x, 3, 0);
        replay(x, 2, 1);
        replay(x, 0, 2);
        SudokuGrader y = Grids.of(Grids.EASY);
        y.grade(10);
        replay(y, 0, 10);
        y.grade(30);
        replay(y, 10, 30);
    }

    /** What a claim has taken already isn't taken again; what stands behind it isn't reached. */
    private static void replayTillOneIsNotTaken() {
        EDGES.says("Promise 12", "The trace is claimed from its STEP i on before the checker, as it is, till one isn't "
                + "taken: how many were.");
        SudokuGrader x = Grids.of(Grids.EASY);
        x.grade(10);
        EDGES.due("claim of step 4", x.claim(x.step(4, 0), x.step(4, 1), x.step(4, 2)) > 0, true);
        replay(x, 0, 4);
        int cell = x.gone(5, 0) / 9;
        EDGES.due("what step 5 takes is there", x.candidates(cell, 1) >> x.gone(5, 0) % 9 & 1, 1);
        replay(x, 4, 0);
        replay(x, 5, 5);
        SudokuGrader chains = Grids.graded(Grids.CHAINS);
        // its first chain doesn't hold at first
        replay(chains, 31, 0);
    }

    private static void replayOfNothing() {
        EDGES.says("Promise 12", "The trace is claimed from its STEP i on before the checker, as it is, till one isn't "
                + "taken: how many were.");
        SudokuGrader x = new SudokuGrader();
        replay(x, 0, 0);
        SudokuGrader y = Grids.of(Grids.EASY);
        y.grade(30);
        replay(y, 30, 0);
        EDGES.due("candidates(2, 1)", y.candidates(2, 1), 511);
    }

    private static void replayRefused() {
        EDGES.says("Promise 12", "NONE, doing nothing: i isn't 0 to the trace's length.");
        for (int i : new int[] {-1, 729, 730, LEAST, GREATEST}) {
            EDGES.refused(Call.replay(i), -1);
        }
        EDGES.refused(Call.replayBeyond(1), -1);
        EDGES.refused(Call.replayBeyond(2), -1);
    }

    private static void replayTakesNodesAway() {
        EDGES.says("Promise 12", "(Nodes that were put go.)");
        SudokuGrader empty = new SudokuGrader();
        node(empty, 5, 1);
        replay(empty, 1, -1);
        node(empty, 5, 2);
        replay(empty, 0, 0);
        node(empty, 5, 1);
        SudokuGrader x = Grids.of(Grids.EASY);
        x.grade(3);
        put(x, 12);
        replay(x, 0, 3);
        node(x, 5, 1);
        replay(x, 3, 0);
        node(x, 5, 1);
        replay(x, 0, 0);
        node(x, 5, 1);
        // a chain of the trace is claimed by its own nodes, not by those that were put
        SudokuGrader chains = Grids.graded(Grids.CHAINS);
        put(chains, 1);
        EDGES.due("replay(0)", chains.replay(0), chains.told(0));
        node(chains, 5, 1);
    }
}
