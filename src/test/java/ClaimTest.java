/** Promises 10, 11 and 12: node, claim, replay. Each rule of Part 2 is claimed on a grid made by hand. */
public final class ClaimTest {
    private static final Check CHECK = new Check();

    public static void main(String[] args) {
        single();
        hiddenSingle();
        pointing();
        claiming();
        naked();
        nakedWithAnEmptyCell();
        hidden();
        fish();
        tooFew();
        wrongRules();
        nodes();
        shortChain();
        chainWithinACell();
        chainRefused();
        chainRoundToItsStart();
        replayWhole();
        replayEdges();
        CHECK.end();
    }

    private static void claim(SudokuGrader x, int rule, int p, int q, int want) {
        CHECK.due("claim(" + rule + ", " + p + ", " + q + ")", x.claim(rule, p, q), want);
    }

    private static void single() {
        SudokuGrader x = new SudokuGrader();
        x.give(0, 9);
        claim(x, 0, 0, 8, -1);
        claim(x, 0, 1, 9, -1);
        claim(x, 0, 0, 9, 20);
        claim(x, 0, 0, 9, -1);
        CHECK.due("gone at the checker's", x.candidates(80 - 72, 1), 255);
        CHECK.due("not gone now", x.candidates(8, 0), 511);
        claim(x, 0, -1, 9, -1);
        claim(x, 0, 81, 9, -1);
        claim(x, 0, 0, 0, -1);
        claim(x, 0, 0, 10, -1);
        claim(x, 0, Integer.MIN_VALUE, 1, -1);
        claim(x, 0, Integer.MAX_VALUE, 1, -1);
        claim(x, 0, 0, Integer.MAX_VALUE, -1);
        claim(x, 0, 0, Integer.MIN_VALUE, -1);
    }

    private static void hiddenSingle() {
        SudokuGrader x = new SudokuGrader();
        x.row(0, 12345678);
        claim(x, 1, 0, 8, -1);
        claim(x, 1, 0, 9, 8);
        CHECK.due("cell 0", x.candidates(0, 1), 256);
        claim(x, 1, 0, 9, -1);
        claim(x, 1, 9, 9, -1);
        claim(x, 1, 27, 9, -1);
        claim(x, 1, -1, 9, -1);
        claim(x, 1, 0, 0, -1);
        claim(x, 1, 0, 10, -1);
    }

    private static void pointing() {
        SudokuGrader x = new SudokuGrader();
        x.row(1, 123000000);
        x.row(2, 456000000);
        claim(x, 2, 18, 1, -1);
        claim(x, 2, 18, 9, 6);
        CHECK.due("the row beyond the box", x.candidates(3, 1), 255);
        CHECK.due("the row in the box", x.candidates(2, 1), 511);
        claim(x, 2, 18, 9, -1);
        claim(x, 2, 17, 9, -1);
        claim(x, 2, 27, 9, -1);
        claim(x, 2, 18, 10, -1);
        claim(x, 2, 18, 0, -1);

        SudokuGrader lone = new SudokuGrader();
        lone.row(0, 780000000);
        lone.row(1, 123000000);
        lone.row(2, 456000000);
        claim(lone, 2, 18, 9, 6);
        CHECK.due("of a lone cell the row", lone.candidates(8, 1), 255);
        CHECK.due("of a lone cell not the column", lone.candidates(29, 1), 511);
        claim(lone, 2, 18, 9, -1);

        SudokuGrader column = new SudokuGrader();
        column.row(3, 12000000);
        column.row(4, 34000000);
        column.row(5, 56000000);
        claim(column, 2, 21, 9, 6);
        CHECK.due("the column beyond the box", column.candidates(72, 1), 255);
        CHECK.due("none has it", column.claim(2, 21, 1), -1);
    }

    private static void claiming() {
        SudokuGrader x = new SudokuGrader();
        x.row(4, 123000456);
        claim(x, 3, 4, 9, 6);
        CHECK.due("the box beyond the line", x.candidates(30, 1), 255);
        CHECK.due("the line in the box", x.candidates(39, 1), 511);
        claim(x, 3, 4, 9, -1);
        claim(x, 3, 4, 1, -1);
        claim(x, 3, 18, 9, -1);
        claim(x, 3, -1, 9, -1);
        SudokuGrader column = new SudokuGrader();
        for (int r = 0; r < 6; r++) {
            column.give(9 * r + 7, r + 1);
        }
        claim(column, 3, 16, 9, 6);
        CHECK.due("the box beyond the column", column.candidates(60, 1), 255);
        SudokuGrader none = new SudokuGrader();
        none.row(0, 111111111);
        claim(none, 3, 0, 9, -1);
    }

    /** Row 0 is given, and each of its digits is claimed as a single. */
    private static SudokuGrader rowOfSingles(int v) {
        SudokuGrader x = new SudokuGrader();
        x.row(0, v);
        claimSingles(x);
        return x;
    }

    private static void claimSingles(SudokuGrader x) {
        for (int cell = 0; cell < 81; cell++) {
            int bits = x.candidates(cell, 2);
            if (Integer.bitCount(bits) == 1) {
                x.claim(0, cell, Integer.numberOfTrailingZeros(bits) + 1);
            }
        }
    }

    private static void naked() {
        SudokuGrader two = rowOfSingles(1234567);
        claim(two, 4, 0, Grids.bits(0, 1), -1);
        claim(two, 4, 18, Grids.bits(0, 2), -1);
        claim(two, 4, 18, Grids.bits(0, 1, 2), -1);
        claim(two, 6, 18, Grids.bits(0, 1), -1);
        claim(two, 4, 18, Grids.bits(0, 1), 12);
        CHECK.due("gone", two.candidates(20, 1) & 384, 0);
        claim(two, 4, 18, Grids.bits(0, 1), -1);
        SudokuGrader three = rowOfSingles(123456);
        claim(three, 6, 0, Grids.bits(0, 1, 2), -1);
        claim(three, 6, 18, Grids.bits(0, 1, 2), 18);
        nakedFour();
    }

    /** Cells 0, 1, 2 and 9 have 6, 7, 8, 9: the rest of row 0 and of column 0 has 1 to 5. */
    private static void nakedFour() {
        SudokuGrader x = new SudokuGrader();
        x.row(0, 12345);
        for (int d = 1; d <= 5; d++) {
            x.give(9 * (d + 2), d);
        }
        claimSingles(x);
        int four = Grids.bits(0, 1, 2, 3);
        claim(x, 9, 18, Grids.bits(0, 1, 2, 4), -1);
        claim(x, 6, 18, Grids.bits(0, 1, 2), -1);
        claim(x, 9, 18, -1, -1);
        claim(x, 9, 18, 512 + Grids.bits(0, 1, 2), -1);
        claim(x, 9, 18, Integer.MIN_VALUE + Grids.bits(0, 1, 2), -1);
        claim(x, 9, 18, Integer.MIN_VALUE + four, -1);
        claim(x, 9, 27, four, -1);
        claim(x, 9, -1, four, -1);
        claim(x, 9, 18, four, 20);
        CHECK.due("gone", x.candidates(18, 1), 0);
    }

    /** A cell without candidates has none to add: by the words, it and a pair have two together. */
    private static void nakedWithAnEmptyCell() {
        SudokuGrader x = rowOfSingles(550123467);
        CHECK.due("empty", x.candidates(1, 1), 0);
        CHECK.due("a pair", x.candidates(2, 1), 384);
        claim(x, 4, 18, Grids.bits(1, 2), 12);
    }

    /** Fewer than k together are not k together, whatever might go. */
    private static void tooFew() {
        SudokuGrader x = new SudokuGrader();
        x.give(0, 5);
        x.give(1, 5);
        claim(x, 4, 0, Grids.bits(0, 1), -1);
        SudokuGrader hidden = new SudokuGrader();
        hidden.row(0, 12345671);
        claim(hidden, 5, 0, Grids.bits(7, 8), -1);
        SudokuGrader fish = new SudokuGrader();
        fish.row(0, 12345678);
        fish.row(4, 12345678);
        claim(fish, 8, 9, Grids.bits(0, 4), -1);
    }

    private static void hidden() {
        SudokuGrader two = new SudokuGrader();
        two.row(0, 1234567);
        claim(two, 5, 0, Grids.bits(6, 7), -1);
        claim(two, 5, 0, Grids.bits(7), -1);
        claim(two, 5, 0, Grids.bits(7, 8), 14);
        CHECK.due("what stays", two.candidates(1, 1), 384);
        claim(two, 5, 0, Grids.bits(7, 8), -1);
        SudokuGrader three = new SudokuGrader();
        three.row(0, 123456);
        claim(three, 7, 0, Grids.bits(6, 7, 8), 18);
        SudokuGrader four = new SudokuGrader();
        four.row(0, 12345);
        claim(four, 7, 0, Grids.bits(6, 7, 8), -1);
        claim(four, 10, 0, Grids.bits(5, 6, 7, 8), 20);
        claim(four, 10, 27, Grids.bits(5, 6, 7, 8), -1);
        claim(four, 10, 0, 512, -1);
    }

    private static void fish() {
        SudokuGrader rows = new SudokuGrader();
        rows.row(0, 1234567);
        rows.row(4, 7654321);
        claim(rows, 8, 9, Grids.bits(0, 3), -1);
        claim(rows, 8, 25, Grids.bits(0, 1), -1);
        claim(rows, 8, 9, Grids.bits(0, 4), 14);
        CHECK.due("gone", rows.candidates(73, 1), 255);
        CHECK.due("in a base", rows.candidates(37, 1), 511);
        claim(rows, 8, 9, Grids.bits(0, 4), -1);
        int[] wrong = {0, 10, 16, 26, 41, -7, Integer.MAX_VALUE, Integer.MIN_VALUE};
        for (int p : wrong) {
            claim(rows, 8, p, Grids.bits(0, 4), -1);
        }
        claim(rows, 8, 8, Grids.bits(0, 4), 14);

        SudokuGrader columns = new SudokuGrader();
        for (int r = 3; r < 9; r++) {
            columns.give(9 * r, r - 2);
            columns.give(9 * r + 4, r - 2);
            columns.give(9 * r + 8, r - 2);
        }
        claim(columns, 11, 9, Grids.bits(0, 4, 8), -1);
        claim(columns, 11, 25, Grids.bits(0, 4, 8), 18);
        CHECK.due("gone across", columns.candidates(1, 1), 255);

        SudokuGrader four = new SudokuGrader();
        for (int r = 0; r < 4; r++) {
            four.row(2 * r, 11111);
        }
        claim(four, 12, 9, Grids.bits(0, 2, 4, 8), -1);
        claim(four, 12, 9, Grids.bits(0, 2, 4, 6), 20);
        claim(four, 12, 1, Grids.bits(0, 2, 4, 6), -1);
    }

    private static void wrongRules() {
        SudokuGrader x = new SudokuGrader();
        x.give(0, 1);
        int[] wrong = {-1, 14, 15, Integer.MIN_VALUE, Integer.MAX_VALUE};
        x.node(3);
        for (int rule : wrong) {
            claim(x, rule, 0, 1, -1);
        }
        CHECK.due("other claims leave the nodes", x.node(4), 2);
    }

    private static void nodes() {
        SudokuGrader x = new SudokuGrader();
        int[] wrong = {-1, 729, Integer.MIN_VALUE, Integer.MAX_VALUE};
        for (int n : wrong) {
            CHECK.due("node(" + n + ")", x.node(n), -1);
        }
        for (int i = 1; i <= 24; i++) {
            CHECK.due("node " + i, x.node(i % 2 == 0 ? 728 : 0), i);
        }
        CHECK.due("one more", x.node(5), -1);
        claim(x, 13, 0, 0, -1);
        CHECK.due("all were taken away", x.node(5), 1);
    }

    private static SudokuGrader rowWithTwoNines() {
        SudokuGrader x = new SudokuGrader();
        x.row(0, 1234567);
        return x;
    }

    private static void put(SudokuGrader x, int... nodes) {
        for (int n : nodes) {
            x.node(n);
        }
    }

    /** Cells 0 and 1 are all of row 0 that have 9: it goes from the box's other cells. */
    private static void shortChain() {
        SudokuGrader x = rowWithTwoNines();
        put(x, 8, 17);
        claim(x, 13, 99, -99, 6);
        CHECK.due("gone", x.candidates(20, 1), 255);
        CHECK.due("the rest of cell 0 stays", x.candidates(0, 1), 511);
        put(x, 8, 17);
        claim(x, 13, 1, 8, -1);
        CHECK.due("all were taken away", x.node(1), 1);

        SudokuGrader again = rowWithTwoNines();
        put(again, 8, 17, 8, 17);
        claim(again, 13, 0, 0, 6);
    }

    /** 8 and 9 are in cells 0 and 1 alone: if cell 0 has no 9, it has 8, and so nothing else. */
    private static void chainWithinACell() {
        SudokuGrader x = rowWithTwoNines();
        put(x, 8, 17, 16, 7);
        claim(x, 13, 2, 8, 7);
        CHECK.due("cell 0", x.candidates(0, 1), 384);
        CHECK.due("cell 1", x.candidates(1, 1), 511);
    }

    private static void chainRefused() {
        SudokuGrader x = rowWithTwoNines();
        claim(x, 13, 1, 8, -1);
        put(x, 8);
        claim(x, 13, 1, 8, -1);
        put(x, 8, 17, 8);
        claim(x, 13, 1, 8, -1);
        put(x, 8, 8);
        claim(x, 13, 1, 8, -1);
        // weak, but not strong
        put(x, 8, 7);
        claim(x, 13, 1, 8, -1);
        // strong at both ends, but the middle ones are no two
        put(x, 8, 17, 17, 8);
        claim(x, 13, 2, 8, -1);
        // one digit in two cells of a column and a box, but others there have it too
        put(x, 8, 89);
        claim(x, 13, 1, 8, -1);
        // node 26 isn't there: cell 2 has a given 1
        put(x, 8, 26);
        claim(x, 13, 1, 8, -1);
        // the middle ones are not weak: other digits of two cells
        put(x, 8, 17, 7, 16);
        claim(x, 13, 1, 8, -1);
        put(x, 8, 17);
        claim(x, 13, 1, 8, 6);
    }

    /**
     * Row 0 has 9 in cells 0 and 2 alone, column 0 in cells 0 and 18 alone, and one box has all
     * three: a chain goes round to its start, and all goes that is weak to that.
     */
    private static void chainRoundToItsStart() {
        SudokuGrader x = new SudokuGrader();
        x.row(0, 10234567);
        for (int r = 1; r < 9; r++) {
            if (r != 2) {
                x.give(9 * r, 8);
            }
        }
        put(x, 8, 26, 170, 8);
        claim(x, 13, 2, 8, 14);
        CHECK.due("cell 0", x.candidates(0, 1), 256);
        CHECK.due("cell 2", x.candidates(2, 1), 255);
        CHECK.due("cell 20", x.candidates(20, 1), 255);
        CHECK.due("cell 9", x.candidates(9, 1), 128);
    }

    private static void replayWhole() {
        for (String known : Puzzles.KNOWN) {
            SudokuGrader x = Grids.graded(known);
            CHECK.due("replay(0) of " + known, x.replay(0), x.told(0));
            for (int cell = 0; cell < 81; cell++) {
                CHECK.due("cell " + cell, x.candidates(cell, 1), x.candidates(cell, 0));
            }
            CHECK.due("replay(0) again", x.replay(0), 0);
            CHECK.due("replay of the end", x.replay(x.told(0)), 0);
        }
    }

    private static void replayEdges() {
        SudokuGrader x = Grids.of(Grids.EASY);
        x.grade(3);
        x.node(1);
        int[] wrong = {-1, 4, Integer.MIN_VALUE, Integer.MAX_VALUE};
        for (int i : wrong) {
            CHECK.due("replay(" + i + ")", x.replay(i), -1);
        }
        CHECK.due("nodes stay", x.node(2), 2);
        CHECK.due("replay(3)", x.replay(3), 0);
        CHECK.due("nodes go", x.node(2), 1);
        CHECK.due("replay(1)", x.replay(1), 2);
        CHECK.due("replay(0): the first is taken, the second no more", x.replay(0), 1);
        x.grade(2);
        CHECK.due("replay(3) of the later ones", x.replay(3), 2);
    }
}
