/** Boundary cases of Part 2: what counts as an instance, claimed before the checker on grids made by hand. */
public final class EdgeRuleTest {
    private static final Edges EDGES = new Edges();
    private static final int LEAST = Edges.LEAST;
    private static final int GREATEST = Edges.GREATEST;
    /** Just outside of a digit, and such as a shift by 32 would bring back. */
    private static final int[] NO_DIGITS = {0, 10, -1, 32, 33, 41, -31, -23, LEAST, GREATEST};
    private static final int[] NO_HOUSES = {-1, 27, -9, 81, LEAST, GREATEST};
    private static final int[] NAKED = {4, 6, 9};
    private static final int[] HIDDEN = {5, 7, 10};
    private static final int[] FISH = {8, 11, 12};

    public static void main(String[] args) {
        atSomeCandidates();
        single();
        singleNotAlone();
        hiddenSingle();
        hiddenSingleNotOne();
        pointing();
        pointingOfALoneCell();
        pointingOfNone();
        claiming();
        claimingOfNone();
        for (int k = 2; k <= 4; k++) {
            naked(k, 0, 0);
            naked(k, 8, 9 - k);
            nakedOfTooFew(k);
            hidden(k, 0, 0, 9 - k);
            hidden(k, 8, 9 - k, 0);
            hiddenOfTooFewOrMany(k);
            fish(k, 1, 0);
            fish(k, 9, 9 - k);
            fish(k, 17, 0);
            fish(k, 25, 9 - k);
            fishOfTooFewOrMany(k);
        }
        nothingGoes();
        weakOnes();
        strongOnes();
        rowsOfCandidates();
        weakToBothEnds();
        EDGES.end();
    }

    private static void claim(SudokuGrader x, int rule, int p, int q, int want) {
        EDGES.due("claim(" + rule + ", " + p + ", " + q + ")", x.claim(rule, p, q), want);
    }

    private static void noDigits(SudokuGrader x, int rule, int p) {
        for (int q : NO_DIGITS) {
            claim(x, rule, p, q, -1);
        }
    }

    /** One claim makes another an instance, and itself none: 9 in box 18, then in row 0, then in column 0. */
    private static void atSomeCandidates() {
        EDGES.says("PART 2", "RULES, each with its INSTANCES (p, q) at some candidates, and what goes:");
        SudokuGrader x = new SudokuGrader();
        x.row(0, 12000000);
        x.row(1, 345000000);
        x.row(2, 678000000);
        claim(x, 3, 0, 9, -1);
        claim(x, 1, 0, 9, -1);
        claim(x, 0, 0, 9, -1);
        claim(x, 2, 18, 9, 6);
        claim(x, 2, 18, 9, -1);
        claim(x, 1, 0, 9, 8);
        claim(x, 1, 0, 9, -1);
        claim(x, 0, 0, 9, 6);
        claim(x, 0, 0, 9, -1);
        for (int cell = 9; cell < 81; cell++) {
            int given = x.candidates(cell, 2);
            boolean below = cell % 9 == 0 && cell > 26;
            EDGES.due("candidates(" + cell + ", 1)", x.candidates(cell, 1), below ? 255 : given);
        }
    }

    private static void single() {
        EDGES.says("PART 2", "0 SINGLE: cell p has the candidate q (a digit) alone: q goes from its peers.");
        int[][] right = {{0, 1}, {0, 9}, {80, 1}, {80, 9}};
        for (int[] r : right) {
            SudokuGrader x = new SudokuGrader();
            x.give(r[0], r[1]);
            noDigits(x, 0, r[0]);
            for (int p : new int[] {-1, 81, LEAST, GREATEST}) {
                claim(x, 0, p, r[1], -1);
            }
            claim(x, 0, r[0], r[1], 20);
        }
    }

    private static void singleNotAlone() {
        EDGES.says("PART 2", "0 SINGLE: cell p has the candidate q (a digit) alone: q goes from its peers.");
        SudokuGrader x = new SudokuGrader();
        x.row(0, 1234567);
        claim(x, 0, 0, 9, -1);
        claim(x, 5, 0, Grids.bits(7, 8), 14);
        claim(x, 0, 0, 9, -1);
        claim(x, 0, 0, 8, -1);
        claim(x, 0, 2, 2, -1);
        SudokuGrader none = new SudokuGrader();
        none.give(0, 5);
        none.give(8, 5);
        claim(none, 0, 0, 5, 20);
        claim(none, 0, 8, 5, -1);
    }

    private static void hiddenSingle() {
        EDGES.says("PART 2", "1 HIDDEN: in house p just one cell has q: its other candidates go.");
        for (int p : new int[] {0, 8, 9, 17, 18, 26}) {
            for (int q : new int[] {1, 9}) {
                SudokuGrader x = new SudokuGrader();
                for (int position = 1; position < 9; position++) {
                    x.give(Plain.HOUSES.get(p).get(position), q == 9 ? position : position + 1);
                }
                noDigits(x, 1, p);
                for (int wrong : NO_HOUSES) {
                    claim(x, 1, wrong, q, -1);
                }
                claim(x, 1, p, q, 8);
                EDGES.due("what stays", x.candidates(Plain.HOUSES.get(p).get(0), 1), 1 << (q - 1));
            }
        }
    }

    private static void hiddenSingleNotOne() {
        EDGES.says("PART 2", "1 HIDDEN: in house p just one cell has q: its other candidates go.");
        SudokuGrader two = new SudokuGrader();
        two.row(0, 1234567);
        claim(two, 1, 0, 9, -1);
        SudokuGrader none = new SudokuGrader();
        none.row(0, 123456788);
        claim(none, 1, 0, 9, -1);
    }

    private static void pointing() {
        EDGES.says("PART 2", "2 POINTING: in box p (18 to 26) the cells that have q (at least one) lie in one line "
                + "(the row, if in a row and a column): q goes from the line's cells that aren't in the box.");
        for (int q : new int[] {1, 9}) {
            for (int box : new int[] {18, 22, 26}) {
                for (int line = 0; line < 6; line++) {
                    pointingAlong(box, line, q);
                }
            }
        }
    }

    /** The box has q in one of its rows (line 0 to 2) or columns (3 to 5) alone. */
    private static void pointingAlong(int box, int line, int q) {
        SudokuGrader x = new SudokuGrader();
        int lastOne = -1;
        int inside = -1;
        for (int position = 0; position < 9; position++) {
            int cell = Plain.HOUSES.get(box).get(position);
            if (line < 3 ? position / 3 == line : position % 3 == line - 3) {
                inside = cell;
            } else {
                lastOne = cell;
                x.give(cell, 10 - q);
            }
        }
        x.give(lastOne, 0);
        claim(x, 2, box, q, -1);
        x.give(lastOne, 10 - q);
        noDigits(x, 2, box);
        for (int p : new int[] {17, 27, 0, -1, LEAST, GREATEST}) {
            claim(x, 2, p, q, -1);
        }
        claim(x, 2, box, q, 6);
        int house = line < 3 ? inside / 9 : 9 + inside % 9;
        for (int cell : Plain.HOUSES.get(house)) {
            int stays = Plain.HOUSES.get(box).contains(cell) ? 511 : 511 - (1 << (q - 1));
            EDGES.due("candidates(" + cell + ", 1)", x.candidates(cell, 1), stays);
        }
    }

    /** Of one cell the row counts, also where nothing goes from the row and something would from the column. */
    private static void pointingOfALoneCell() {
        EDGES.says("PART 2", "2 POINTING: in box p (18 to 26) the cells that have q (at least one) lie in one line "
                + "(the row, if in a row and a column): q goes from the line's cells that aren't in the box.");
        SudokuGrader x = new SudokuGrader();
        x.row(0, 12000000);
        x.row(1, 345000000);
        x.row(2, 678000000);
        claim(x, 2, 18, 9, 6);
        EDGES.due("in the row", x.candidates(3, 1), 255);
        EDGES.due("in the column", x.candidates(27, 1), 511);
        claim(x, 2, 18, 9, -1);
        SudokuGrader full = new SudokuGrader();
        full.row(0, 12345678);
        full.row(1, 345000000);
        full.row(2, 678000000);
        claim(full, 2, 18, 9, -1);
    }

    private static void pointingOfNone() {
        EDGES.says("PART 2", "2 POINTING: in box p (18 to 26) the cells that have q (at least one) lie in one line "
                + "(the row, if in a row and a column): q goes from the line's cells that aren't in the box.");
        SudokuGrader x = new SudokuGrader();
        x.row(0, 123000000);
        x.row(1, 345000000);
        x.row(2, 678000000);
        claim(x, 2, 18, 9, -1);
    }

    private static void claiming() {
        EDGES.says("PART 2", "3 CLAIMING: in line p (0 to 17) the cells that have q (at least one) lie in one box: "
                + "q goes from the box's cells that aren't in the line.");
        for (int p : new int[] {0, 8, 9, 17}) {
            for (int q : new int[] {1, 9}) {
                SudokuGrader x = new SudokuGrader();
                int free = p % 2 == 0 ? 0 : 6;
                for (int position = 0; position < 9; position++) {
                    if (position / 3 != free / 3 && position != 4) {
                        x.give(Plain.HOUSES.get(p).get(position), 10 - q);
                    }
                }
                claim(x, 3, p, q, -1);
                x.give(Plain.HOUSES.get(p).get(4), 10 - q);
                noDigits(x, 3, p);
                for (int wrong : new int[] {18, 26, -1, LEAST, GREATEST}) {
                    claim(x, 3, wrong, q, -1);
                }
                claim(x, 3, p, q, 6);
                EDGES.due("in the line", x.candidates(Plain.HOUSES.get(p).get(free), 1), 511);
            }
        }
    }

    private static void claimingOfNone() {
        EDGES.says("PART 2", "3 CLAIMING: in line p (0 to 17) the cells that have q (at least one) lie in one box: "
                + "q goes from the box's cells that aren't in the line.");
        SudokuGrader x = new SudokuGrader();
        x.row(0, 123456788);
        claim(x, 3, 0, 9, -1);
        x.row(0, 12345678);
        claim(x, 3, 0, 9, 6);
    }

    /** Bits of k places in a row. */
    private static int run(int from, int k) {
        return ((1 << k) - 1) << from;
    }

    /** What is wrong as a set of k, whatever the house: too few bits, too many, and bits beyond the ninth. */
    private static void noSets(SudokuGrader x, int rule, int p, int q) {
        int least = q & -q;
        int[] wrong = {0, q ^ least, q | 511 & ~q & -(511 & ~q), 511, q | 512, q ^ least | 512, q | LEAST,
            q ^ least | LEAST, q - 512, -1, LEAST, GREATEST, -q};
        for (int w : wrong) {
            claim(x, rule, p, w, -1);
        }
    }

    /** The columns of these cells of row r have k digits in k cells alone: k cells of the row have k candidates. */
    private static void naked(int k, int r, int from) {
        EDGES.says("PART 2", "4, 6, 9 NAKED of k 2, 3, 4: in house p the k cells at the positions that are the bits "
                + "of q have k candidates together: these go from the house's other cells.");
        SudokuGrader x = new SudokuGrader();
        for (int c = from; c < from + k; c++) {
            for (int d = 1; d <= 9 - k; d++) {
                x.give(9 * (r == 0 ? d : d - 1) + c, d);
            }
        }
        for (int c = from; c < from + k; c++) {
            claim(x, NAKED[k - 2], r, run(from, k), -1);
            claim(x, HIDDEN[k - 2], 9 + c, run(9 - k, k), k * (9 - k));
        }
        noSets(x, NAKED[k - 2], r, run(from, k));
        for (int p : NO_HOUSES) {
            claim(x, NAKED[k - 2], p, run(from, k), -1);
        }
        for (int other = 2; other <= 4; other++) {
            if (other != k) {
                claim(x, NAKED[other - 2], r, run(from, k), -1);
            }
        }
        claim(x, NAKED[k - 2], r, run(from == 0 ? 1 : from - 1, k), -1);
        claim(x, NAKED[k - 2], r, run(from, k), k * (9 - k));
        EDGES.due("what stays", x.candidates(9 * r + from, 1), run(9 - k, k));
        EDGES.due("what is left elsewhere", x.candidates(9 * r + (from + k) % 9, 1), 511 & ~run(9 - k, k));
    }

    /** k cells with k - 1 candidates together. */
    private static void nakedOfTooFew(int k) {
        EDGES.says("PART 2", "4, 6, 9 NAKED of k 2, 3, 4: in house p the k cells at the positions that are the bits "
                + "of q have k candidates together: these go from the house's other cells.");
        SudokuGrader x = new SudokuGrader();
        for (int c = 0; c < k; c++) {
            x.give(c, Math.max(1, c));
        }
        claim(x, NAKED[k - 2], 0, run(0, k), -1);
        x.give(0, 9);
        claim(x, NAKED[k - 2], 0, run(0, k), k * (9 - k));
    }

    /** Row r has digits in all but k cells, so that the other k digits, from the bit low on, are in these. */
    private static void hidden(int k, int r, int from, int low) {
        EDGES.says("PART 2", "5, 7, 10 HIDDEN of k 2, 3, 4: in house p just k cells have any of the k digits that are "
                + "the bits of q: their other candidates go.");
        SudokuGrader x = new SudokuGrader();
        int digit = low == 0 ? k + 1 : 1;
        for (int c = 0; c < 9; c++) {
            if (c < from || c >= from + k) {
                claim(x, HIDDEN[k - 2], r, run(low, k), -1);
                x.give(9 * r + c, digit);
                digit++;
            }
        }
        noSets(x, HIDDEN[k - 2], r, run(low, k));
        for (int p : NO_HOUSES) {
            claim(x, HIDDEN[k - 2], p, run(low, k), -1);
        }
        for (int other = 2; other <= 4; other++) {
            if (other != k) {
                claim(x, HIDDEN[other - 2], r, run(low, k), -1);
            }
        }
        claim(x, HIDDEN[k - 2], r, run(low, k), k * (9 - k));
        for (int c = from; c < from + k; c++) {
            EDGES.due("what stays", x.candidates(9 * r + c, 1), run(low, k));
        }
    }

    private static void hiddenOfTooFewOrMany(int k) {
        EDGES.says("PART 2", "5, 7, 10 HIDDEN of k 2, 3, 4: in house p just k cells have any of the k digits that are "
                + "the bits of q: their other candidates go.");
        int[] free = {k + 1, k - 1, k};
        int[] want = {-1, -1, k * (9 - k)};
        for (int i = 0; i < 3; i++) {
            SudokuGrader x = new SudokuGrader();
            for (int c = free[i]; c < 9; c++) {
                x.give(c, 1);
            }
            claim(x, HIDDEN[k - 2], 0, run(9 - k, k), want[i]);
        }
    }

    /** k rows (columns, if p is above 16) have the digit in the same k columns (rows) alone. */
    private static void fish(int k, int p, int from) {
        EDGES.says("PART 2", "8, 11, 12 FISH of k 2, 3, 4: p is a digit d, and 16 more if its BASES are columns "
                + "(else rows): in the k bases that are the bits of q (bit i is row i, column i) the cells that have d "
                + "lie in just k lines across: d goes from the cells of these lines that aren't in the bases.");
        boolean columns = p > 16;
        int d = columns ? p - 16 : p;
        SudokuGrader x = fishGrid(k, columns, from, k, d);
        noSets(x, FISH[k - 2], p, run(from, k));
        for (int wrong : new int[] {0, 10, 16, 26, -1, d + 32, d - 16, d + 48, LEAST, GREATEST, LEAST + d}) {
            claim(x, FISH[k - 2], wrong, run(from, k), -1);
        }
        for (int other = 2; other <= 4; other++) {
            if (other != k) {
                claim(x, FISH[other - 2], p, run(from, k), -1);
            }
        }
        claim(x, FISH[k - 2], columns ? d : d + 16, run(from, k), -1);
        claim(x, FISH[k - 2], p, run(from == 0 ? 1 : from - 1, k), -1);
        claim(x, FISH[k - 2], p, run(from, k), k * (9 - k));
        int base = from == 0 ? 0 : 8;
        EDGES.due("in a base", x.candidates(columns ? base : 9 * base, 1), 511);
        int beyond = 8 - base;
        EDGES.due("beyond the bases", x.candidates(columns ? beyond : 9 * beyond, 1), 511 - (1 << (d - 1)));
    }

    /** The bases have the digit (1 or 9) in their first so many cells alone. */
    private static SudokuGrader fishGrid(int k, boolean columns, int from, int across, int d) {
        SudokuGrader x = new SudokuGrader();
        for (int base = from; base < from + k; base++) {
            for (int i = across; i < 9; i++) {
                x.give(columns ? 9 * i + base : 9 * base + i, 10 - d);
            }
        }
        return x;
    }

    private static void fishOfTooFewOrMany(int k) {
        EDGES.says("PART 2", "8, 11, 12 FISH of k 2, 3, 4: p is a digit d, and 16 more if its BASES are columns "
                + "(else rows): in the k bases that are the bits of q (bit i is row i, column i) the cells that have d "
                + "lie in just k lines across: d goes from the cells of these lines that aren't in the bases.");
        claim(fishGrid(k, false, 0, k - 1, 9), FISH[k - 2], 9, run(0, k), -1);
        claim(fishGrid(k, false, 0, k + 1, 9), FISH[k - 2], 9, run(0, k), -1);
        claim(fishGrid(k, true, 0, k - 1, 9), FISH[k - 2], 25, run(0, k), -1);
        claim(fishGrid(k, true, 0, k + 1, 9), FISH[k - 2], 25, run(0, k), -1);
    }

    /** Each is an instance but for the last words: what would go is not there. */
    private static void nothingGoes() {
        EDGES.says("PART 2", "An instance of which nothing goes is none.");
        SudokuGrader full = Grids.of(Grids.SOLVED);
        claim(full, 0, 0, 5, -1);
        claim(full, 1, 0, 5, -1);
        claim(full, 2, 18, 5, -1);
        claim(full, 3, 0, 5, -1);
        for (int k = 2; k <= 4; k++) {
            claim(full, NAKED[k - 2], 0, run(0, k), -1);
            claim(full, HIDDEN[k - 2], 0, run(0, k), -1);
            claim(full, FISH[k - 2], 5, run(0, k), -1);
            claim(full, FISH[k - 2], 21, run(0, k), -1);
        }
        EDGES.due("grade(30)", full.grade(30), 0);
        SudokuGrader pair = Grids.of(Grids.TWO);
        chain(pair, -1, 9 * 3 + 5, 9 * 4 + 5);
    }

    private static void chain(SudokuGrader x, int want, int... nodes) {
        for (int n : nodes) {
            x.node(n);
        }
        EDGES.due("claim of the chain " + java.util.Arrays.toString(nodes), x.claim(13, 0, 0), want);
    }

    /** Cells 0 and 1 are all of row 0 that have 8 and 9: nodes 7 and 16, and 8 and 17. */
    private static SudokuGrader pairs() {
        SudokuGrader x = new SudokuGrader();
        x.row(0, 1234567);
        return x;
    }

    private static void weakOnes() {
        EDGES.says("PART 2", "Two candidates that are there are WEAK if they are two of one cell, or one digit in two "
                + "cells of a house");
        // two of cell 1
        chain(pairs(), 7, 8, 17, 16, 7);
        // one digit in cells 1 and 10
        SudokuGrader house = pairs();
        house.row(1, 7654321);
        chain(house, 11, 8, 17, 98, 89);
        SudokuGrader x = pairs();
        // the same one is not two
        chain(x, -1, 8, 17, 17, 8);
        // two digits in two cells
        chain(x, -1, 8, 17, 7, 16);
        // one digit in cells 1 and 17, which share no house; 9 and 17 are all of row 1 that have it
        SudokuGrader apart = pairs();
        apart.row(1, 12345670);
        chain(apart, -1, 8, 17, 161, 89);
        chain(apart, 4, 8, 17);
    }

    private static void strongOnes() {
        EDGES.says("PART 2", "STRONG if they are two and all that a cell has, or all cells of a house that have a "
                + "digit.");
        SudokuGrader x = pairs();
        // two of a cell that has more
        chain(x, -1, 8, 7, 16, 17);
        // a digit in two cells of a column and a box that have it in others too
        chain(x, -1, 8, 89);
        // not there: cell 2 has a given digit
        chain(x, -1, 8, 26);
        chain(x, -1, 26, 8);
        chain(x, -1, 8, 8);
        claim(x, 5, 0, Grids.bits(7, 8), 14);
        // now 8 and 9 are all that cells 0 and 1 have
        chain(x, 6, 8, 7, 16, 17);
        // cells 8 and 15 share a box; all of row 1 that have 9 are two, but cell 8 is not one of them
        SudokuGrader beside = new SudokuGrader();
        beside.row(1, 12345078);
        chain(beside, -1, 80, 143);
        // all of column 0 that have 9 are cells 0 and 9; all of box 18, cells 0 and 1
        SudokuGrader column = new SudokuGrader();
        for (int r = 2; r < 9; r++) {
            column.give(9 * r, r);
        }
        chain(column, 6, 8, 89);
        SudokuGrader box = new SudokuGrader();
        box.row(0, 7000000);
        box.row(1, 123000000);
        box.row(2, 456000000);
        chain(box, 6, 8, 17);
    }

    private static void rowsOfCandidates() {
        EDGES.says("PART 2", "A CHAIN is a row of 2 m candidates (one may come again) of which the first and the "
                + "second are STRONG, the second and the third WEAK, and so on, the last two STRONG");
        for (int count = 0; count <= 24; count++) {
            int[] nodes = new int[count];
            for (int i = 0; i < count; i++) {
                nodes[i] = i % 2 == 0 ? 8 : 17;
            }
            chain(pairs(), count > 0 && count % 2 == 0 ? 6 : -1, nodes);
        }
        // the last two, or the first two, are WEAK alone
        chain(pairs(), -1, 8, 17, 16, 15);
        chain(pairs(), -1, 15, 16, 17, 8);
    }

    private static void weakToBothEnds() {
        EDGES.says("PART 2", "all candidates go that are WEAK to the first one and to the last one.");
        SudokuGrader x = pairs();
        chain(x, 6, 8, 17);
        for (int cell = 0; cell < 81; cell++) {
            boolean given = cell >= 2 && cell < 9;
            boolean sees = cell >= 9 && cell / 27 == 0 && cell % 9 < 3;
            int want = given ? 1 << (cell - 2) : sees ? 255 : 511;
            EDGES.due("candidates(" + cell + ", 1)", x.candidates(cell, 1), want);
        }
        chain(x, -1, 8, 17);
        // the last one is the first one: 9 is in row 0 in cells 0 and 2, in column 0 in cells 0 and 18
        SudokuGrader round = new SudokuGrader();
        round.row(0, 10234567);
        for (int r = 1; r < 9; r++) {
            if (r != 2) {
                round.give(9 * r, 8);
            }
        }
        chain(round, 14, 8, 26, 170, 8);
        EDGES.due("candidates(0, 1)", round.candidates(0, 1), 256);
        EDGES.due("candidates(2, 1)", round.candidates(2, 1), 255);
        EDGES.due("candidates(18, 1)", round.candidates(18, 1), 255);
    }
}
