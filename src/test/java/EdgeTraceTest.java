import java.util.Set;
import java.util.TreeSet;

/** Boundary cases of promises 4, 6, 7, 8 and 9, and of Parts 2 and 3 where they speak of steps. */
public final class EdgeTraceTest {
    private static final Edges EDGES = new Edges();
    private static final int LEAST = Edges.LEAST;
    private static final int GREATEST = Edges.GREATEST;
    private static final int[] WEIGHTS = {1, 2, 4, 5, 6, 8, 9, 12, 14, 16, 20, 18, 24, 30};

    public static void main(String[] args) {
        noSteps();
        fewerStepsThanAsked();
        thirtySteps();
        gradeRefused();
        noMoreSteps();
        firstRuleFirst();
        firstInstanceOfAll();
        setsInOrder();
        chainsInOrder();
        twelvePairs();
        thirteenPairs();
        stepsAreTheTrace();
        weights();
        toldSteps();
        toldScore();
        toldLevel();
        toldWent();
        toldEnded();
        toldRefused();
        stepFromZeroOn();
        stepOfAChain();
        stepRefused();
        goneRising();
        goneRefused();
        linkFirstAndLast();
        linkRefused();
        EDGES.end();
    }

    private static void grade(SudokuGrader x, int n, int want) {
        EDGES.due("grade(" + n + ")", x.grade(n), want);
    }

    private static void told(SudokuGrader x, int what, int want) {
        EDGES.due("told(" + what + ")", x.told(what), want);
    }

    private static void step(SudokuGrader x, int i, int... want) {
        for (int what = 0; what < want.length; what++) {
            EDGES.due("step(" + i + ", " + what + ")", x.step(i, what), want[what]);
        }
    }

    private static SudokuGrader gradedBy(String puzzle, int steps) {
        SudokuGrader x = Grids.of(puzzle);
        for (int left = steps; left > 0; left -= 30) {
            x.grade(Math.min(30, left));
        }
        return x;
    }

    private static void noSteps() {
        EDGES.says("Promise 4", "At most n STEPS (0 to 30): how many were done");
        SudokuGrader x = Grids.of(Grids.EASY);
        grade(x, 0, 0);
        told(x, 0, 0);
        EDGES.due("candidates(2, 0)", x.candidates(2, 0), 511);
        grade(x, 1, 1);
        grade(x, 0, 0);
        told(x, 0, 1);
        SudokuGrader empty = new SudokuGrader();
        grade(empty, 0, 0);
        grade(empty, 1, 0);
        grade(empty, 30, 0);
        told(empty, 0, 0);
    }

    private static void fewerStepsThanAsked() {
        EDGES.says("Promise 4", "At most n STEPS (0 to 30): how many were done");
        SudokuGrader x = gradedBy(Grids.EASY, 60);
        grade(x, 5, 4);
        told(x, 0, 64);
        SudokuGrader y = gradedBy(Grids.EASY, 60);
        grade(y, 4, 4);
        grade(y, 30, 0);
        told(y, 0, 64);
        SudokuGrader one = new SudokuGrader();
        one.give(40, 5);
        grade(one, 30, 1);
        grade(one, 30, 0);
    }

    private static void thirtySteps() {
        EDGES.says("Promise 4", "At most n STEPS (0 to 30): how many were done");
        SudokuGrader x = Grids.of(Grids.EASY);
        grade(x, 30, 30);
        told(x, 0, 30);
        grade(x, 29, 29);
        told(x, 0, 59);
    }

    private static void gradeRefused() {
        EDGES.says("Promise 4", "NONE, doing nothing, for another n.");
        int[] wrong = {-1, 31, -30, 60, LEAST, GREATEST};
        for (int n : wrong) {
            EDGES.refused(Call.grade(n), -1);
        }
    }

    private static void noMoreSteps() {
        EDGES.says("PART 3", "No more steps: no rule has one.");
        SudokuGrader x = Grids.graded(Grids.TWO);
        int steps = x.told(0);
        told(x, 4, 1);
        for (int cell = 0; cell < 81; cell++) {
            boolean open = cell == 3 || cell == 4 || cell == 30 || cell == 31;
            EDGES.due("candidates(" + cell + ", 0)", Integer.bitCount(x.candidates(cell, 0)), open ? 2 : 1);
        }
        grade(x, 30, 0);
        told(x, 0, steps);
        SudokuGrader full = Grids.of(Grids.SOLVED);
        grade(full, 30, 0);
        told(full, 4, 1);
    }

    /** Row 0 has 1 to 8 given: 9 is hidden in it, and each of the eight is a single. */
    private static void firstRuleFirst() {
        EDGES.says("PART 3", "A STEP takes the first rule (by number) that has an instance at the candidates that "
                + "there are, and its first instance; what goes is gone.");
        SudokuGrader x = new SudokuGrader();
        x.row(0, 12345678);
        EDGES.due("claim(1, 0, 9)", x.claim(1, 0, 9), 8);
        grade(x, 1, 1);
        step(x, 0, 0, 1, 1, 13, 0);
        EDGES.due("candidates(0, 0)", x.candidates(0, 0), 510);
        EDGES.due("candidates(2, 0)", x.candidates(2, 0), 2);
    }

    private static void firstInstanceOfAll() {
        EDGES.says("PART 3", "A STEP takes the first rule (by number) that has an instance at the candidates that "
                + "there are, and its first instance; what goes is gone.");
        for (String puzzle : Puzzles.ENDS) {
            Plain plain = new Plain();
            Grids.putRows(plain, puzzle);
            while (plain.told(4) == 0) {
                plain.grade(30);
            }
            int steps = plain.told(0);
            EDGES.due("told(0)", Grids.graded(puzzle).told(0), steps);
            for (int from = 0; from < steps; from += 15) {
                sameSteps(Grids.graded(puzzle), plain, from, Math.min(steps, from + 15));
            }
        }
    }

    private static void sameSteps(SudokuGrader x, Plain plain, int from, int to) {
        for (int i = from; i < to; i++) {
            for (int what = 0; what < 5; what++) {
                EDGES.due("step(" + i + ", " + what + ")", x.step(i, what), plain.step(i, what));
            }
            int nodes = plain.step(i, 4);
            for (int k = 0; k < nodes; k++) {
                EDGES.due("link(" + i + ", " + k + ")", x.link(i, k), plain.link(i, k));
            }
            int last = plain.step(i, 3) - 1;
            EDGES.due("gone(" + i + ", 0)", x.gone(i, 0), plain.gone(i, 0));
            EDGES.due("gone(" + i + ", " + last + ")", x.gone(i, last), plain.gone(i, last));
        }
    }

    /** Two sets of one house hold at once; the first by bits is the greater one as a number. */
    private static void setsInOrder() {
        EDGES.says("PART 2", "Instances of a rule, but 13, are in order by p, then by q (of 4 to 12: by the least "
                + "bits, then the next ones)");
        takesFirst("080000000093000056415037010000060000800109000000000000670000100900010080096060400",
                55, 4, 7, Grids.bits(3, 8), Grids.bits(5, 6));
        takesFirst("430000060600700005002070000050000805004008000460500000030406006003078000800560002",
                29, 5, 25, Grids.bits(1, 7), Grids.bits(2, 4));
        takesFirst("000000600000029000000000000000400001080000080003000000004000500306003550018009067",
                19, 7, 7, Grids.bits(0, 3, 7), Grids.bits(0, 4, 6));
        takesFirst("970000014000610080000039000795800020000003000820000000000008002100500096000000508",
                70, 8, 4, Grids.bits(1, 8), Grids.bits(3, 7));
    }

    private static void takesFirst(String puzzle, int i, int rule, int p, int first, int later) {
        SudokuGrader x = gradedBy(puzzle, i);
        x.replay(0);
        EDGES.due("claim(" + rule + ", " + p + ", " + later + ") holds too", x.claim(rule, p, later) > 0, true);
        grade(x, 1, 1);
        step(x, i, rule, p, first);
    }

    /** Of three chains that hold at once one has fewer pairs, though a greater first node; one is its turn. */
    private static void chainsInOrder() {
        EDGES.says("PART 2", "those of 13 by m, then by their rows of nodes.");
        int[] first = {388, 387, 324, 331, 403, 484};
        int[] morePairs = {318, 316, 388, 387, 324, 331, 403, 484};
        int[] turned = {484, 403, 331, 324, 387, 388};
        for (int[] chain : new int[][] {first, morePairs, turned}) {
            SudokuGrader x = gradedBy(Puzzles.THIRTEEN_PAIRS, 52);
            x.replay(0);
            for (int n : chain) {
                x.node(n);
            }
            EDGES.due("the chain from " + chain[0] + " holds", x.claim(13, 0, 0) > 0, true);
            grade(x, 1, 1);
            step(x, 52, 13, 3, 388);
            for (int k = 0; k < 6; k++) {
                EDGES.due("link(52, " + k + ")", x.link(52, k), first[k]);
            }
        }
    }

    private static void twelvePairs() {
        EDGES.says("PART 2", "13 CHAIN of m pairs (m 1 to 12): p is m, q its first node.");
        int[] chain = {0, 9, 16, 583, 493, 491, 527, 689, 690, 609, 627, 621, 216, 225, 226, 208, 46, 48, 129, 138,
            137, 110, 29, 33};
        SudokuGrader x = gradedBy(Puzzles.TWELVE_PAIRS, 41);
        grade(x, 1, 1);
        step(x, 41, 13, 12, 0, 1, 24);
        for (int k = 0; k < 24; k++) {
            EDGES.due("link(41, " + k + ")", x.link(41, k), chain[k]);
        }
        EDGES.due("link(41, 24)", x.link(41, 24), -1);
        EDGES.due("replay(0)", x.replay(0), 42);
    }

    private static void thirteenPairs() {
        EDGES.says("PART 2", "13 CHAIN of m pairs (m 1 to 12): p is m, q its first node.");
        SudokuGrader x = Grids.graded(Puzzles.THIRTEEN_PAIRS);
        told(x, 0, 56);
        told(x, 4, 1);
        EDGES.due("there is a chain of 13 pairs", hasThirteenPairs(x), true);
    }

    private static boolean hasThirteenPairs(SudokuGrader x) {
        int[] chain = {39, 40, 76, 238, 235, 226, 388, 387, 324, 331, 403, 484, 483, 474, 473, 419, 415, 496, 501, 96,
            105, 107, 134, 701, 683, 678};
        Set<Integer> there = new TreeSet<>();
        for (int cell = 0; cell < 81; cell++) {
            int bits = x.candidates(cell, 0);
            for (int d = 0; d < 9; d++) {
                if ((bits >> d & 1) != 0) {
                    there.add(9 * cell + d);
                }
            }
        }
        boolean holds = true;
        for (int i = 0; i + 1 < 26; i++) {
            int a = chain[i];
            int b = chain[i + 1];
            holds &= i % 2 == 0 ? Plain.strong(there, a, b) : Plain.weak(there, a, b);
        }
        boolean goes = there.stream().anyMatch(n -> Plain.weak(there, n, 39) && Plain.weak(there, n, 678));
        return holds && goes;
    }

    /** By one call, or by several with refused ones in between: the same trace. */
    private static void stepsAreTheTrace() {
        EDGES.says("PART 3", "The steps are the TRACE.");
        for (int each : new int[] {1, 7, 30}) {
            SudokuGrader x = Grids.of(Puzzles.KNOWN[4]);
            SudokuGrader whole = Grids.of(Puzzles.KNOWN[4]);
            grade(whole, 30, 28);
            for (int done = 0; done < 28; done += each) {
                told(x, 0, done);
                step(x, done, -1, -1, -1, -1, -1);
                grade(x, each, Math.min(each, 28 - done));
                grade(x, 31, -1);
            }
            for (int i = 0; i < 28; i++) {
                for (int what = 0; what < 5; what++) {
                    EDGES.due("step(" + i + ", " + what + ")", x.step(i, what), whole.step(i, what));
                }
            }
            step(x, 28, -1, -1, -1, -1, -1);
        }
    }

    /** By how many steps each rule has in a trace; between them, the traces have every rule. */
    private static void weights() {
        EDGES.says("PART 3", "WEIGHTS of the rules 0 to 13: 1, 2, 4, 5, 6, 8, 9, 12, 14, 16, 20, 18, 24, 30; the SCORE "
                + "is the sum of all steps', the LEVEL the greatest rule.");
        for (String puzzle : Puzzles.RARE) {
            SudokuGrader x = Grids.graded(puzzle);
            int steps = x.told(0);
            int[] count = new int[14];
            for (int i = 0; i < steps; i++) {
                count[x.step(i, 0)]++;
            }
            told(x, 1, count[0] + 2 * count[1] + 4 * count[2] + 5 * count[3] + 6 * count[4] + 8 * count[5] + 9 * count[6]
                    + 12 * count[7] + 14 * count[8] + 16 * count[9] + 20 * count[10] + 18 * count[11] + 24 * count[12]
                    + 30 * count[13]);
            int level = 13;
            while (count[level] == 0) {
                level--;
            }
            told(x, 2, level);
        }
    }

    private static void toldSteps() {
        EDGES.says("Promise 6", "How many STEPS the trace has (what 0)");
        SudokuGrader x = Grids.of(Grids.EASY);
        told(x, 0, 0);
        x.grade(1);
        told(x, 0, 1);
        x.grade(30);
        told(x, 0, 31);
        x.grade(30);
        x.grade(30);
        told(x, 0, 64);
        x.claim(0, 0, 5);
        x.replay(0);
        told(x, 0, 64);
    }

    /** Between them, these have every rule. */
    private static void toldScore() {
        EDGES.says("Promise 6", "the SCORE (1)");
        told(new SudokuGrader(), 1, 0);
        int seen = 0;
        for (String rare : Puzzles.RARE) {
            SudokuGrader x = Grids.of(rare);
            int score = 0;
            for (int i = 0; x.grade(1) == 1; i++) {
                int rule = x.step(i, 0);
                seen |= 1 << rule;
                score += WEIGHTS[rule];
                EDGES.due("told(1) after step " + i + " of rule " + rule, x.told(1), score);
            }
        }
        EDGES.due("the rules that were seen", seen, (1 << 14) - 1);
    }

    private static void toldLevel() {
        EDGES.says("Promise 6", "the LEVEL (2; NONE without steps)");
        SudokuGrader empty = new SudokuGrader();
        told(empty, 2, -1);
        empty.grade(30);
        told(empty, 2, -1);
        SudokuGrader one = new SudokuGrader();
        one.give(0, 1);
        told(one, 2, -1);
        one.grade(1);
        told(one, 2, 0);
        SudokuGrader x = Grids.of(Grids.CHAINS);
        int level = -1;
        for (int i = 0; x.grade(1) == 1; i++) {
            level = Math.max(level, x.step(i, 0));
            EDGES.due("told(2) after step " + i, x.told(2), level);
        }
        EDGES.due("told(2) at the end", level, 13);
    }

    private static void toldWent() {
        EDGES.says("Promise 6", "how many candidates went (3)");
        told(new SudokuGrader(), 3, 0);
        SudokuGrader one = new SudokuGrader();
        one.give(0, 1);
        told(one, 3, 0);
        one.grade(1);
        told(one, 3, 20);
        // 30 cells are given, and 51 come down to one
        told(Grids.graded(Grids.EASY), 3, 51 * 8);
        // each column has one digit nine times: the first cell's takes the others
        SudokuGrader wrong = new SudokuGrader();
        for (int r = 0; r < 9; r++) {
            wrong.row(r, 123456789);
        }
        grade(wrong, 30, 9);
        told(wrong, 3, 72);
        told(wrong, 4, 1);
    }

    private static void toldEnded() {
        EDGES.says("Promise 6", "whether grading ended (4: 1 or 0; 0 as long as no call of grade() found no step)");
        SudokuGrader empty = new SudokuGrader();
        told(empty, 4, 0);
        empty.grade(0);
        told(empty, 4, 0);
        empty.grade(31);
        told(empty, 4, 0);
        empty.grade(1);
        told(empty, 4, 1);
        SudokuGrader x = gradedBy(Grids.EASY, 60);
        grade(x, 4, 4);
        told(x, 4, 0);
        grade(x, 1, 0);
        told(x, 4, 1);
        SudokuGrader y = gradedBy(Grids.EASY, 60);
        grade(y, 5, 4);
        told(y, 4, 1);
        y.grade(0);
        told(y, 4, 1);
    }

    private static void toldRefused() {
        EDGES.says("Promise 6", "NONE for others.");
        int[] wrong = {-1, 5, 6, LEAST, GREATEST};
        for (State state : State.values()) {
            for (int what : wrong) {
                told(state.make(), what, -1);
            }
        }
    }

    private static void stepFromZeroOn() {
        EDGES.says("Promise 7", "Of STEP i (from 0 on): its rule (what 0), p (1), q (2), how many candidates went (3), "
                + "how many nodes its chain has (4; 0 of other rules).");
        SudokuGrader x = new SudokuGrader();
        x.give(0, 9);
        x.give(80, 1);
        x.grade(30);
        step(x, 0, 0, 0, 9, 20, 0);
        step(x, 1, 0, 80, 1, 20, 0);
        SudokuGrader y = Grids.graded(Grids.EASY);
        EDGES.due("step(63, 3)", y.step(63, 3) > 0, true);
        EDGES.due("step(63, 4)", y.step(63, 4), 0);
    }

    private static void stepOfAChain() {
        EDGES.says("Promise 7", "how many nodes its chain has (4; 0 of other rules)");
        SudokuGrader x = Grids.graded(Grids.CHAINS);
        int steps = x.told(0);
        for (int i = 0; i < steps; i++) {
            boolean chain = x.step(i, 0) == 13;
            EDGES.due("step(" + i + ", 4)", x.step(i, 4), chain ? 2 * x.step(i, 1) : 0);
        }
    }

    private static void stepRefused() {
        EDGES.says("Promise 7", "NONE where there is none.");
        for (State state : State.values()) {
            SudokuGrader x = state.make();
            int steps = x.told(0);
            for (int what = 0; what < 5; what++) {
                for (int i : new int[] {-1, steps, steps + 1, 728, 729, LEAST, GREATEST}) {
                    EDGES.due("step(" + i + ", " + what + ") " + state.words, x.step(i, what), -1);
                }
            }
            for (int what : new int[] {-1, 5, LEAST, GREATEST}) {
                EDGES.due("step(0, " + what + ") " + state.words, x.step(0, what), -1);
                EDGES.due("step of the last one, " + what + " " + state.words, x.step(steps - 1, what), -1);
            }
        }
    }

    private static void goneRising() {
        EDGES.says("Promise 8", "The k-th candidate that went by STEP i, by nodes rising.");
        SudokuGrader x = new SudokuGrader();
        x.give(1, 1);
        x.give(79, 9);
        x.grade(30);
        int[] first = {0, 2, 3, 4, 5, 6, 7, 8, 9, 10, 11, 18, 19, 20, 28, 37, 46, 55, 64, 73};
        for (int k = 0; k < 20; k++) {
            EDGES.due("gone(0, " + k + ")", x.gone(0, k), 9 * first[k]);
            EDGES.due("gone(1, " + k + ")", x.gone(1, k), 728 - 9 * first[19 - k]);
        }
        risingIn(Grids.CHAINS, 0, 45);
        risingIn(Grids.CHAINS, 45, 116);
        risingIn(Puzzles.RARE[0], 30, 56);
    }

    private static void risingIn(String puzzle, int from, int to) {
        SudokuGrader x = Grids.graded(puzzle);
        for (int i = from; i < to; i++) {
            int count = x.step(i, 3);
            int before = -1;
            for (int k = 0; k < count; k++) {
                int node = x.gone(i, k);
                EDGES.due("gone(" + i + ", " + k + ") rises", node > before, true);
                before = node;
            }
        }
    }

    private static void goneRefused() {
        EDGES.says("Promise 8", "NONE: there is none.");
        for (State state : State.values()) {
            SudokuGrader x = state.make();
            int steps = x.told(0);
            for (int i : new int[] {-1, steps, steps + 1, 729, LEAST, GREATEST}) {
                EDGES.due("gone(" + i + ", 0) " + state.words, x.gone(i, 0), -1);
            }
            for (int i : new int[] {0, steps - 2, steps - 1}) {
                int count = Math.max(0, x.step(i, 3));
                EDGES.due("the last of gone(" + i + ", ..) is there " + state.words,
                        steps == 0 || x.gone(i, count - 1) >= 0, true);
                for (int k : new int[] {-1, count, count + 1, 729, LEAST, GREATEST}) {
                    EDGES.due("gone(" + i + ", " + k + ") " + state.words, x.gone(i, k), -1);
                }
            }
        }
    }

    /** These steps are chains that follow one another: no node of the next one may show. */
    private static void linkFirstAndLast() {
        EDGES.says("Promise 9", "The k-th node of STEP i's chain.");
        SudokuGrader x = Grids.graded(Grids.CHAINS);
        Plain plain = new Plain();
        Grids.putRows(plain, Grids.CHAINS);
        plain.grade(30);
        plain.grade(14);
        for (int i = 35; i < 44; i++) {
            EDGES.due("step(" + i + ", 0)", x.step(i, 0), 13);
            int nodes = x.step(i, 4);
            EDGES.due("link(" + i + ", 0) is q", x.link(i, 0), x.step(i, 2));
            for (int k = 0; k < nodes; k++) {
                EDGES.due("link(" + i + ", " + k + ")", x.link(i, k), plain.link(i, k));
            }
        }
    }

    private static void linkRefused() {
        EDGES.says("Promise 9", "NONE: there is none.");
        for (State state : State.values()) {
            SudokuGrader x = state.make();
            int steps = x.told(0);
            for (int i : new int[] {-1, steps, steps + 1, 729, LEAST, GREATEST}) {
                EDGES.due("link(" + i + ", 0) " + state.words, x.link(i, 0), -1);
            }
        }
        SudokuGrader x = Grids.graded(Grids.CHAINS);
        for (int i : new int[] {0, 30, 31, 32, 35, 36, 43}) {
            int nodes = x.step(i, 4);
            for (int k : new int[] {-1, nodes, nodes + 1, 24, 729, LEAST, GREATEST}) {
                EDGES.due("link(" + i + ", " + k + ")", x.link(i, k), -1);
            }
        }
    }
}
