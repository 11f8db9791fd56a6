import java.util.List;
import java.util.Map;

/** Boundary cases of promises 1, 2, 3 and 5, of Part 1, and of what a new given digit does. */
public final class EdgeGivenTest {
    private static final Edges EDGES = new Edges();
    private static final int LEAST = Edges.LEAST;
    private static final int GREATEST = Edges.GREATEST;

    public static void main(String[] args) {
        noGivenDigits();
        firstAndLastCells();
        aloneOrAllNine();
        twoThatShareAHouse();
        rowsAndColumns();
        positionsRise();
        leastAndGreatestNode();
        everyCellAnyDigit();
        digitsAsBits();
        givenDigit();
        givenNoneAnyMore();
        giveRefused();
        rowAtOnce();
        rowOfNines();
        rowOfNothing();
        rowRefused();
        candidatesOfThree();
        candidatesOfNoneLeft();
        candidatesRefused();
        allAsAtFirst();
        traceAsAtFirst();
        searchAsAtFirst();
        EDGES.end();
    }

    private static void candidates(SudokuGrader x, int cell, int who, int want) {
        EDGES.due("candidates(" + cell + ", " + who + ")", x.candidates(cell, who), want);
    }

    private static void allNineBut(SudokuGrader x, int who, int... cells) {
        for (int cell = 0; cell < 81; cell++) {
            boolean free = true;
            for (int other : cells) {
                free &= other != cell;
            }
            if (free) {
                candidates(x, cell, who, 511);
            }
        }
    }

    private static void noGivenDigits() {
        EDGES.says("Promise 1", "No GIVEN digits.");
        SudokuGrader used = Grids.of(Grids.EASY);
        SudokuGrader x = new SudokuGrader();
        for (int who = 0; who < 3; who++) {
            allNineBut(x, who);
        }
        EDGES.due("grade(30)", x.grade(30), 0);
        EDGES.due("told(3)", x.told(3), 0);
        EDGES.due("of an object made earlier, candidates(0, 2)", used.candidates(0, 2), 16);
    }

    private static void firstAndLastCells() {
        EDGES.says("PART 1", "THE GRID has CELLS 0 to 80, nine to a row: cell c is in row c / 9 and column c % 9.");
        SudokuGrader x = new SudokuGrader();
        x.give(8, 1);
        EDGES.due("claim(0, 8, 1)", x.claim(0, 8, 1), 20);
        candidates(x, 0, 1, 510);
        candidates(x, 80, 1, 510);
        candidates(x, 9, 1, 511);
        candidates(x, 72, 1, 511);
    }

    private static void aloneOrAllNine() {
        EDGES.says("PART 1", "At first a cell with a GIVEN digit has that alone, every other one all nine.");
        SudokuGrader x = new SudokuGrader();
        x.give(0, 1);
        x.give(1, 1);
        x.give(80, 9);
        for (int who = 0; who < 3; who++) {
            candidates(x, 0, who, 1);
            candidates(x, 1, who, 1);
            candidates(x, 80, who, 256);
        }
        allNineBut(x, 2, 0, 1, 80);
        allNineBut(x, 0, 0, 1, 80);
    }

    private static void twoThatShareAHouse() {
        EDGES.says("PART 1", "Two cells are PEERS if they are two, and a house has both.");
        SudokuGrader x = new SudokuGrader();
        x.give(40, 5);
        EDGES.due("claim(0, 40, 5)", x.claim(0, 40, 5), 20);
        candidates(x, 40, 1, 16);
        int[] peers = {4, 13, 22, 30, 31, 32, 36, 37, 38, 39, 40, 41, 42, 43, 44, 48, 49, 50, 58, 67, 76};
        allNineBut(x, 1, peers);
        for (int cell : peers) {
            candidates(x, cell, 1, cell == 40 ? 16 : 495);
        }
    }

    /** Each row and column in its turn has 9 in its middle three cells alone. A box has it in one box, but is no line. */
    private static void rowsAndColumns() {
        EDGES.says("PART 1", "LINES are rows and columns.");
        for (int p = 0; p < 18; p++) {
            SudokuGrader x = new SudokuGrader();
            List<Integer> line = Plain.HOUSES.get(p);
            for (int position = 0; position < 9; position++) {
                if (position / 3 != 1) {
                    x.give(line.get(position), 1 + position);
                }
            }
            x.give(line.get(8), 1);
            EDGES.due("claim(3, " + p + ", 9)", x.claim(3, p, 9), 6);
        }
        SudokuGrader box = new SudokuGrader();
        for (int p = 18; p < 27; p++) {
            EDGES.due("claim(3, " + p + ", 9)", box.claim(3, p, 9), -1);
        }
    }

    /**
     * Of each kind's first and last house the first and the last cell come down to 8 and 9, each by
     * a line across that has them in two cells alone: these two positions are then a naked pair.
     */
    private static void positionsRise() {
        EDGES.says("PART 1", "27 HOUSES of nine cells, by their POSITIONS 0 to 8 in rising order: 0 to 8 the rows, "
                + "9 to 17 the columns, 18 to 26 the boxes (box 18 + 3 (row / 3) + column / 3).");
        int[][] ends = {{0, 0, 8}, {8, 72, 80}, {9, 0, 72}, {17, 8, 80}, {18, 0, 20}, {20, 6, 26}, {26, 60, 80}};
        for (int[] e : ends) {
            int house = e[0];
            int[] across = {lineAcross(house, e[1]), lineAcross(house, e[2])};
            SudokuGrader x = new SudokuGrader();
            givePairAcross(x, house, e[1]);
            givePairAcross(x, house, e[2]);
            for (int line : across) {
                EDGES.due("claim(5, " + line + ", 8 and 9)", x.claim(5, line, Grids.bits(7, 8)), 14);
            }
            candidates(x, e[1], 1, 384);
            candidates(x, e[2], 1, 384);
            EDGES.due("claim(4, " + house + ", 0 and 7)", x.claim(4, house, Grids.bits(0, 7)), -1);
            EDGES.due("claim(4, " + house + ", 1 and 8)", x.claim(4, house, Grids.bits(1, 8)), -1);
            EDGES.due("claim(4, " + house + ", 0 and 8)", x.claim(4, house, Grids.bits(0, 8)), house < 18 ? 14 : 6);
        }
    }

    private static int lineAcross(int house, int cell) {
        return house < 9 ? 9 + cell % 9 : cell / 9;
    }

    /** The line across has 1 to 7 in all but this cell and its last one beyond the house. */
    private static void givePairAcross(SudokuGrader x, int house, int cell) {
        List<Integer> line = Plain.HOUSES.get(lineAcross(house, cell));
        int free = cell;
        for (int c : line) {
            free = Plain.HOUSES.get(house).contains(c) ? free : c;
        }
        int digit = 1;
        for (int c : line) {
            if (c != cell && c != free) {
                x.give(c, digit);
                digit++;
            }
        }
    }

    private static void leastAndGreatestNode() {
        EDGES.says("PART 1", "A candidate is told as a NODE: 9 times its cell, and its digit less 1.");
        SudokuGrader x = new SudokuGrader();
        x.give(1, 1);
        x.grade(1);
        EDGES.due("gone(0, 0)", x.gone(0, 0), 0);
        SudokuGrader y = new SudokuGrader();
        y.give(79, 9);
        y.grade(1);
        EDGES.due("gone(0, 19)", y.gone(0, 19), 728);
    }

    private static void everyCellAnyDigit() {
        EDGES.says("PART 1", "A cell may have a GIVEN digit 1 to 9.");
        for (int digit = 1; digit <= 9; digit++) {
            SudokuGrader x = new SudokuGrader();
            for (int cell = 0; cell < 81; cell++) {
                EDGES.due("give(" + cell + ", " + digit + ")", x.give(cell, digit), true);
            }
            EDGES.due("give(0, 10)", x.give(0, 10), false);
            EDGES.due("candidates(0, 2)", Integer.bitCount(x.candidates(0, 2)), 1);
        }
    }

    private static void digitsAsBits() {
        EDGES.says("PART 1", "CANDIDATES of a cell are digits, as bits: digit d is bit d - 1.");
        int[] bits = {511, 1, 2, 4, 8, 16, 32, 64, 128, 256};
        for (int cell = 0; cell < 81; cell++) {
            SudokuGrader x = new SudokuGrader();
            for (int digit = 9; digit >= 0; digit--) {
                x.give(cell, digit);
                for (int who = 0; who < 3; who++) {
                    candidates(x, cell, who, bits[digit]);
                }
            }
        }
    }

    private static void givenDigit() {
        EDGES.says("Promise 2", "A cell's GIVEN digit (0: none any more).");
        SudokuGrader x = new SudokuGrader();
        int[][] right = {{0, 1, 1}, {0, 9, 256}, {80, 1, 1}, {80, 9, 256}, {40, 5, 16}};
        for (int[] r : right) {
            EDGES.due("give(" + r[0] + ", " + r[1] + ")", x.give(r[0], r[1]), true);
            candidates(x, r[0], 2, r[2]);
        }
        allNineBut(x, 2, 0, 40, 80);
    }

    private static void givenNoneAnyMore() {
        EDGES.says("Promise 2", "A cell's GIVEN digit (0: none any more).");
        SudokuGrader x = new SudokuGrader();
        x.give(0, 9);
        x.give(80, 9);
        EDGES.due("give(0, 0)", x.give(0, 0), true);
        candidates(x, 0, 2, 511);
        candidates(x, 80, 2, 256);
        EDGES.due("give(80, 0)", x.give(80, 0), true);
        candidates(x, 80, 2, 511);
        EDGES.due("give(80, 0) where none is", x.give(80, 0), true);
        allNineBut(x, 0);
        EDGES.due("grade(30)", x.grade(30), 0);
    }

    private static void giveRefused() {
        EDGES.says("Promise 2", "False, doing nothing: no such cell or digit.");
        int[][] wrong = {{-1, 1}, {81, 1}, {-1, 0}, {81, 0}, {0, -1}, {80, -1}, {0, 10}, {80, 10}, {LEAST, 1},
            {GREATEST, 1}, {0, LEAST}, {80, GREATEST}, {LEAST, LEAST}, {GREATEST, GREATEST}};
        for (int[] w : wrong) {
            EDGES.refused(Call.give(w[0], w[1]), 0);
        }
    }

    private static void rowAtOnce() {
        EDGES.says("Promise 3", "Nine cells' GIVEN digits at once, those of row r, as decimal digits of v "
                + "(from its last 9 ones, the first cell the highest): true.");
        int[] rows = {0, 4, 8};
        for (int r : rows) {
            SudokuGrader x = new SudokuGrader();
            EDGES.due("row(" + r + ", 123456789)", x.row(r, 123456789), true);
            for (int k = 0; k < 9; k++) {
                candidates(x, 9 * r + k, 2, 1 << k);
            }
            EDGES.due("row(" + r + ", 100000000)", x.row(r, 100000000), true);
            candidates(x, 9 * r, 2, 1);
            allNineBut(x, 2, 9 * r);
            EDGES.due("row(" + r + ", 1)", x.row(r, 1), true);
            candidates(x, 9 * r + 8, 2, 1);
            allNineBut(x, 2, 9 * r + 8);
        }
    }

    private static void rowOfNines() {
        EDGES.says("Promise 3", "Nine cells' GIVEN digits at once, those of row r, as decimal digits of v "
                + "(from its last 9 ones, the first cell the highest): true.");
        SudokuGrader x = new SudokuGrader();
        EDGES.due("row(8, 999999999)", x.row(8, 999999999), true);
        for (int cell = 0; cell < 81; cell++) {
            candidates(x, cell, 2, cell < 72 ? 511 : 256);
        }
    }

    private static void rowOfNothing() {
        EDGES.says("Promise 3", "Nine cells' GIVEN digits at once, those of row r, as decimal digits of v "
                + "(from its last 9 ones, the first cell the highest): true.");
        SudokuGrader x = new SudokuGrader();
        x.row(0, 123456789);
        x.row(1, 987654321);
        EDGES.due("row(0, 0)", x.row(0, 0), true);
        for (int k = 0; k < 9; k++) {
            candidates(x, k, 2, 511);
            candidates(x, 9 + k, 2, 256 >> k);
        }
    }

    private static void rowRefused() {
        EDGES.says("Promise 3", "False, doing nothing: no such row, v is below 0 or above 999999999.");
        int[][] wrong = {{-1, 0}, {9, 0}, {-1, 123456789}, {9, 123456789}, {0, -1}, {8, -1}, {0, 1000000000},
            {8, 1000000000}, {LEAST, 0}, {GREATEST, 0}, {0, LEAST}, {8, GREATEST}, {LEAST, LEAST}};
        for (int[] w : wrong) {
            EDGES.refused(Call.row(w[0], w[1]), 0);
        }
    }

    private static void candidatesOfThree() {
        EDGES.says("Promise 5", "The candidates of a cell, as bits, now (who 0), of the checker (1), at first (2).");
        SudokuGrader x = new SudokuGrader();
        x.give(1, 1);
        x.give(79, 9);
        x.grade(1);
        x.claim(0, 79, 9);
        int[][] want = {{510, 511, 511}, {511, 255, 511}};
        for (int who = 0; who < 3; who++) {
            candidates(x, 0, who, want[0][who]);
            candidates(x, 80, who, want[1][who]);
        }
    }

    private static void candidatesOfNoneLeft() {
        EDGES.says("Promise 5", "The candidates of a cell, as bits, now (who 0), of the checker (1), at first (2).");
        SudokuGrader x = new SudokuGrader();
        x.give(0, 5);
        x.give(8, 5);
        x.grade(1);
        x.claim(0, 8, 5);
        candidates(x, 8, 0, 0);
        candidates(x, 0, 1, 0);
        candidates(x, 8, 2, 16);
        candidates(x, 0, 2, 16);
    }

    private static void candidatesRefused() {
        EDGES.says("Promise 5", "NONE: no such cell or who.");
        int[][] wrong = {{-1, 0}, {81, 0}, {-1, 1}, {81, 1}, {-1, 2}, {81, 2}, {0, -1}, {80, -1}, {0, 3}, {80, 3},
            {LEAST, 0}, {GREATEST, 1}, {LEAST, 2}, {0, LEAST}, {80, GREATEST}};
        for (State state : State.values()) {
            SudokuGrader x = state.make();
            for (int[] w : wrong) {
                candidates(x, w[0], w[1], -1);
            }
        }
    }

    /** After each way to give, an object that has done all it could is as one that was given the same at once. */
    private static void allAsAtFirst() {
        EDGES.says("PART 5", "A new GIVEN digit makes all as at first: candidates, trace, checker (its nodes, too), "
                + "search.");
        Call[] ways = {Call.give(0, 4), Call.give(0, 0), Call.give(80, 1), Call.row(0, 123456789), Call.row(8, 0)};
        for (Call way : ways) {
            for (State state : State.values()) {
                SudokuGrader x = state.make();
                EDGES.due(way.name + " " + state.words, way.on(x), 1);
                SudokuGrader twin = givenAsIn(x);
                Map<String, Integer> want = Look.at(twin);
                EDGES.same("after " + way.name + " " + state.words, Look.at(x), want);
                EDGES.due("node(728) after " + way.name + " " + state.words, x.node(728), 1);
                twin.node(728);
                EDGES.same("going on after " + way.name, Look.goingOn(x), Look.goingOn(twin));
            }
        }
    }

    /** Where the old trace had chains the new one has none. */
    private static void traceAsAtFirst() {
        EDGES.says("PART 5", "A new GIVEN digit makes all as at first: candidates, trace, checker (its nodes, too), "
                + "search.");
        SudokuGrader x = Grids.graded(Grids.CHAINS);
        Grids.putRows(x, Grids.EASY);
        Grids.gradeOn(x);
        for (int i = 0; i < 64; i++) {
            EDGES.due("step(" + i + ", 0)", x.step(i, 0), 0);
            EDGES.due("step(" + i + ", 4)", x.step(i, 4), 0);
            EDGES.due("link(" + i + ", 0)", x.link(i, 0), -1);
        }
        EDGES.due("step(64, 0)", x.step(64, 0), -1);
        Grids.putRows(x, Grids.CHAINS);
        Grids.gradeOn(x);
        EDGES.due("replay(0)", x.replay(0), 116);
        EDGES.due("told(2)", x.told(2), 13);
    }

    /** A search that is left in its midst, or that has ended with digits left to try, leaves nothing behind. */
    private static void searchAsAtFirst() {
        EDGES.says("PART 5", "A new GIVEN digit makes all as at first: candidates, trace, checker (its nodes, too), "
                + "search.");
        int[] before = {0, 1, 2, 3, 5, 8, 13, 40, 150, 300};
        String[] later = {Grids.SOLVED, Grids.TWO, Grids.HARD, Grids.CHAINS, Grids.EASY};
        for (String earlier : new String[] {Grids.EASY, Grids.FOUR, Grids.HARD, Puzzles.ENDLESS}) {
            for (int n : before) {
                for (String grid : later) {
                    SudokuGrader x = Grids.of(earlier);
                    x.search(n);
                    Grids.putRows(x, grid);
                    SudokuGrader twin = Grids.of(grid);
                    EDGES.due("search(0)", x.search(0), twin.search(0));
                    EDGES.due("search(300)", x.search(300), twin.search(300));
                    for (int what = 0; what < 3; what++) {
                        EDGES.due("searched(" + what + ")", x.searched(what), twin.searched(what));
                    }
                    for (int cell = 0; cell < 81; cell++) {
                        EDGES.due("solution(0, " + cell + ")", x.solution(0, cell), twin.solution(0, cell));
                        EDGES.due("solution(1, " + cell + ")", x.solution(1, cell), twin.solution(1, cell));
                    }
                }
            }
        }
    }

    private static SudokuGrader givenAsIn(SudokuGrader x) {
        SudokuGrader twin = new SudokuGrader();
        for (int cell = 0; cell < 81; cell++) {
            int bits = x.candidates(cell, 2);
            if (bits != 511) {
                twin.give(cell, Integer.numberOfTrailingZeros(bits) + 1);
            }
        }
        return twin;
    }
}
