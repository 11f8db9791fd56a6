import java.util.List;
import java.util.Set;
import java.util.TreeSet;

/** Boundary cases of promises 13, 14 and 15, and of Part 5. */
public final class EdgeSearchTest {
    private static final Edges EDGES = new Edges();
    private static final int LEAST = Edges.LEAST;
    private static final int GREATEST = Edges.GREATEST;
    /** One solution, by two tries. */
    private static final String ONE_OF_TWO =
        "000750000002001003500000800400200000000089000001006000004900600080002010300010580";
    /** No solution, by two tries. */
    private static final String NONE_OF_TWO =
        "008500100090042000004000090000300052012007000000090600000021000700006003140000908";
    private static final int HARD_TRIES = 142;
    /** One solution, after more than 300 tries. */
    private static final String LONG = Puzzles.KNOWN[2];
    private static final int LONG_TRIES = 469;
    /** Hidden ones and singles by turns solve it. */
    private static final String BY_TURNS =
        "102000006000007000003402800000803007000000050500000001060380000040000092000010004";
    /** Grading solves them, at the LEVELS 2, 3, 4 and 5. */
    private static final String[] MORE_RULES = {
        "000000000000700629000608500400800060061900005030020040007560000050030400100000003",
        "278000090030010008050000000000000000060280050500079002000038001480050900000100700",
        "000060000900870065005000400400000090080600000100237000200090000003000050806002107",
        "000089000030000046610000028000340000005000000041092000800000030020000607000450000",
    };
    private static final int[] MORE_RULES_TRIES = {2, 4, 4, 4};

    public static void main(String[] args) {
        noTries();
        oneTryAtATime();
        threeHundredTries();
        fewerTriesThanAsked();
        searchRefused();
        beginsWithTheFirstCall();
        beginsAtFirst();
        closedByTwoRules();
        closedInAnyOrder();
        deadByACell();
        deadByAHouse();
        deadByWhatIsGiven();
        solvedAtOnce();
        fewestAndFirst();
        endsWithTheSecond();
        endsWithNothingLeft();
        searchedEnded();
        searchedTries();
        searchedJustOne();
        searchedRefused();
        solutionsAsTheyAreComeTo();
        solutionRefused();
        EDGES.end();
    }

    private static void search(SudokuGrader x, int n, int want) {
        EDGES.due("search(" + n + ")", x.search(n), want);
    }

    private static void searched(SudokuGrader x, int... want) {
        for (int what = 0; what < want.length; what++) {
            EDGES.due("searched(" + what + ")", x.searched(what), want[what]);
        }
    }

    private static void solution(SudokuGrader x, int k, int cell, int want) {
        EDGES.due("solution(" + k + ", " + cell + ")", x.solution(k, cell), want);
    }

    private static void noTries() {
        EDGES.says("Promise 13", "At most n TRIES more (0 to 300): how many solutions were found");
        SudokuGrader x = Grids.of(Grids.TWO);
        search(x, 0, 0);
        searched(x, 0, 0, -1);
        search(x, 0, 0);
        searched(x, 0, 0, -1);
        SudokuGrader empty = new SudokuGrader();
        search(empty, 0, 0);
        searched(empty, 0, 0, -1);
    }

    private static void oneTryAtATime() {
        EDGES.says("Promise 13", "At most n TRIES more (0 to 300): how many solutions were found");
        SudokuGrader x = Grids.of(Grids.TWO);
        search(x, 1, 1);
        searched(x, 0, 1, -1);
        search(x, 0, 1);
        search(x, 1, 2);
        searched(x, 1, 2, 0);
        search(x, 0, 2);
        search(x, 300, 2);
        searched(x, 1, 2, 0);
    }

    private static void threeHundredTries() {
        EDGES.says("Promise 13", "At most n TRIES more (0 to 300): how many solutions were found");
        SudokuGrader x = Grids.of(Puzzles.ENDLESS);
        search(x, 300, 0);
        searched(x, 0, 300, -1);
        search(x, 299, 0);
        searched(x, 0, 599, -1);
        search(x, 300, 0);
        searched(x, 0, 899, -1);
    }

    private static void fewerTriesThanAsked() {
        EDGES.says("Promise 13", "At most n TRIES more (0 to 300): how many solutions were found");
        SudokuGrader x = Grids.of(LONG);
        x.search(300);
        searched(x, 0, 300, -1);
        search(x, 300, 1);
        searched(x, 1, LONG_TRIES, 1);
        SudokuGrader y = Grids.of(Grids.TWO);
        search(y, 300, 2);
        searched(y, 1, 2, 0);
    }

    private static void searchRefused() {
        EDGES.says("Promise 13", "NONE, doing nothing, for another n.");
        for (int n : new int[] {-1, 301, -300, 600, LEAST, GREATEST}) {
            EDGES.refused(Call.search(n), -1);
        }
        // it has not begun: this grid needs no try
        SudokuGrader x = Grids.of(Grids.SOLVED);
        search(x, 301, -1);
        search(x, -1, -1);
        searched(x, 0, 0, -1);
        solution(x, 0, 0, -1);
    }

    private static void beginsWithTheFirstCall() {
        EDGES.says("PART 5", "(It begins with the first call of search(), also of 0 TRIES.)");
        SudokuGrader x = Grids.of(Grids.EASY);
        searched(x, 0, 0, -1);
        solution(x, 0, 0, -1);
        x.grade(30);
        x.replay(0);
        searched(x, 0, 0, -1);
        search(x, 0, 1);
        searched(x, 1, 0, 1);
        solution(x, 0, 0, 5);
        SudokuGrader dead = new SudokuGrader();
        dead.give(0, 5);
        dead.give(1, 5);
        searched(dead, 0, 0, -1);
        search(dead, 0, 0);
        searched(dead, 1, 0, 0);
    }

    /** Chains and claims bring other candidates down, but the search has its own. */
    private static void beginsAtFirst() {
        EDGES.says("PART 5", "The search begins with those at first, CLOSED.");
        SudokuGrader x = Grids.graded(Grids.HARD);
        x.replay(0);
        x.search(300);
        searched(x, 1, HARD_TRIES, 1);
        SudokuGrader y = Grids.of(Grids.HARD);
        y.search(300);
        searched(y, 1, HARD_TRIES, 1);
        EDGES.due("candidates(1, 0) after a search", y.candidates(1, 0), 511);
        EDGES.due("candidates(1, 1) after a search", y.candidates(1, 1), 511);
    }

    private static void closedByTwoRules() {
        EDGES.says("PART 5", "CLOSED candidates have no instance of 0 and 1 (as long as there is one, it's taken; what is "
                + "left then doesn't hang on the order).");
        SudokuGrader x = Grids.of(BY_TURNS);
        search(x, 0, 1);
        searched(x, 1, 0, 1);
        EDGES.due("told(2)", Grids.graded(BY_TURNS).told(2), 1);
        for (int i = 0; i < MORE_RULES.length; i++) {
            SudokuGrader y = Grids.graded(MORE_RULES[i]);
            EDGES.due("told(2)", y.told(2), i + 2);
            search(y, 0, 0);
            searched(y, 0, 0, -1);
            search(y, 300, 1);
            searched(y, 1, MORE_RULES_TRIES[i], 1);
            for (int cell = 0; cell < 81; cell++) {
                EDGES.due("candidates(" + cell + ", 0)", y.candidates(cell, 0), 1 << (y.solution(0, cell) - 1));
            }
        }
    }

    /** The model's closing leaves the same from behind; the tries hang on what is left, so they are the same too. */
    private static void closedInAnyOrder() {
        EDGES.says("PART 5", "CLOSED candidates have no instance of 0 and 1 (as long as there is one, it's taken; what is "
                + "left then doesn't hang on the order).");
        for (String puzzle : MORE_RULES) {
            Set<Integer> first = Plain.atFirst(Puzzles.of(puzzle));
            EDGES.due("what is left", PlainSearch.closed(first).equals(closedFromBehind(first)), true);
            PlainSearch plain = new PlainSearch(Puzzles.of(puzzle));
            SudokuGrader x = Grids.of(puzzle);
            for (int n = 0; n < 5; n++) {
                plain.allow(1);
                search(x, 1, plain.found.size());
                searched(x, plain.ended() ? 1 : 0, plain.tries);
            }
        }
    }

    private static Set<Integer> closedFromBehind(Set<Integer> start) {
        Set<Integer> there = new TreeSet<>(start);
        boolean more = true;
        while (more) {
            more = false;
            for (int rule = 1; rule >= 0; rule--) {
                for (int p = 80; p >= 0; p--) {
                    for (int q = 9; q >= 1; q--) {
                        more |= there.removeAll(Plain.byRule(there, rule, p, q));
                    }
                }
            }
        }
        return there;
    }

    private static Set<Integer> closed(int... cellsAndDigits) {
        int[] given = new int[81];
        for (int i = 0; i < cellsAndDigits.length; i += 2) {
            given[cellsAndDigits[i]] = cellsAndDigits[i + 1];
        }
        return PlainSearch.closed(Plain.atFirst(given));
    }

    private static boolean aCellHasNone(Set<Integer> there) {
        boolean none = false;
        for (int cell = 0; cell < 81; cell++) {
            none |= Plain.digitsOf(there, cell).isEmpty();
        }
        return none;
    }

    private static boolean aHouseLacksADigit(Set<Integer> there) {
        boolean lacks = false;
        for (List<Integer> house : Plain.HOUSES) {
            for (int d = 1; d <= 9; d++) {
                lacks |= Plain.cellsWith(there, house, d).isEmpty();
            }
        }
        return lacks;
    }

    private static void endsDead(int... cellsAndDigits) {
        SudokuGrader x = new SudokuGrader();
        for (int i = 0; i < cellsAndDigits.length; i += 2) {
            x.give(cellsAndDigits[i], cellsAndDigits[i + 1]);
        }
        search(x, 0, 0);
        searched(x, 1, 0, 0);
        search(x, 300, 0);
        searched(x, 1, 0, 0);
        solution(x, 0, 0, -1);
    }

    /** Row, column and box of cell 0 have all nine digits. */
    private static void deadByACell() {
        EDGES.says("PART 5", "They are DEAD if a cell has none, or a house has no cell that has some digit");
        int[] given = {3, 1, 4, 2, 5, 3, 27, 4, 36, 5, 45, 6, 10, 7, 11, 8, 20, 9};
        EDGES.due("a cell has none", aCellHasNone(closed(given)), true);
        EDGES.due("a house lacks a digit", aHouseLacksADigit(closed(given)), false);
        endsDead(given);
    }

    /** Row 0 has 1, 2, 3 in its first box, and a 9 stands elsewhere in its other two. */
    private static void deadByAHouse() {
        EDGES.says("PART 5", "They are DEAD if a cell has none, or a house has no cell that has some digit");
        int[] given = {0, 1, 1, 2, 2, 3, 12, 9, 24, 9};
        EDGES.due("a cell has none", aCellHasNone(closed(given)), false);
        EDGES.due("a house lacks a digit", aHouseLacksADigit(closed(given)), true);
        endsDead(given);
    }

    /** Every cell has one at first, but a digit is twice in a house. */
    private static void deadByWhatIsGiven() {
        EDGES.says("PART 1", "A SOLUTION gives each cell a digit, the GIVEN ones theirs, and no digit twice in a "
                + "house.");
        SudokuGrader x = Grids.of(Grids.SOLVED);
        x.give(80, 1);
        search(x, 300, 0);
        searched(x, 1, 0, 0);
        solution(x, 0, 0, -1);
    }

    private static void solvedAtOnce() {
        EDGES.says("PART 5", "SOLVED if not DEAD and each cell has one.");
        for (String grid : new String[] {Grids.SOLVED, Grids.EASY, Grids.without(Grids.SOLVED, 0),
            Grids.without(Grids.SOLVED, 80)}) {
            SudokuGrader x = Grids.of(grid);
            search(x, 0, 1);
            searched(x, 1, 0, 1);
            for (int cell = 0; cell < 81; cell++) {
                solution(x, 0, cell, Grids.SOLVED.charAt(cell) - '0');
            }
            solution(x, 1, 0, -1);
        }
    }

    /** Cell 3 has 6 and 7, cell 22 has 2 and 4: both solutions that are found have 6 in cell 3. */
    private static void fewestAndFirst() {
        EDGES.says("PART 5", "Of such as are neither, the cell with the fewest (more than one; of several the first) has "
                + "each of its digits, rising, as a TRY: that digit alone there, CLOSED, and on from there, ahead of "
                + "the next digit.");
        SudokuGrader x = Grids.of(Grids.FOUR);
        search(x, 1, 0);
        search(x, 1, 1);
        searched(x, 0, 2, -1);
        search(x, 1, 2);
        searched(x, 1, 3, 0);
        int[][] want = {{6, 2}, {6, 4}};
        for (int k = 0; k < 2; k++) {
            solution(x, k, 3, want[k][0]);
            solution(x, k, 22, want[k][1]);
        }
        SudokuGrader hard = Grids.of(Grids.HARD);
        search(hard, HARD_TRIES - 1, 1);
        searched(hard, 0, HARD_TRIES - 1, -1);
        search(hard, 1, 1);
        searched(hard, 1, HARD_TRIES, 1);
        SudokuGrader empty = new SudokuGrader();
        search(empty, 300, 2);
        for (int cell = 0; cell < 9; cell++) {
            solution(empty, 0, cell, cell + 1);
            solution(empty, 1, cell, cell + 1);
        }
    }

    private static void endsWithTheSecond() {
        EDGES.says("PART 5", "SOLVED ones are solutions, as they are come to; the search ends with the second one, or as "
                + "soon as there is nothing left to try.");
        // two more are there, but cell 3 is never tried with 7
        SudokuGrader x = Grids.of(Grids.FOUR);
        search(x, 300, 2);
        searched(x, 1, 3, 0);
        search(x, 300, 2);
        searched(x, 1, 3, 0);
        solution(x, 2, 3, -1);
        SudokuGrader empty = new SudokuGrader();
        search(empty, 300, 2);
        int tries = empty.searched(1);
        search(empty, 300, 2);
        searched(empty, 1, tries, 0);
    }

    private static void endsWithNothingLeft() {
        EDGES.says("PART 5", "SOLVED ones are solutions, as they are come to; the search ends with the second one, or as "
                + "soon as there is nothing left to try.");
        SudokuGrader one = Grids.of(ONE_OF_TWO);
        search(one, 0, 0);
        one.search(1);
        searched(one, 0, 1, -1);
        search(one, 1, 1);
        searched(one, 1, 2, 1);
        SudokuGrader none = Grids.of(NONE_OF_TWO);
        search(none, 1, 0);
        searched(none, 0, 1, -1);
        search(none, 1, 0);
        searched(none, 1, 2, 0);
        search(none, 300, 0);
        searched(none, 1, 2, 0);
    }

    private static void searchedEnded() {
        EDGES.says("Promise 14", "Whether the search ended (what 0: 1 or 0)");
        SudokuGrader x = Grids.of(Grids.TWO);
        EDGES.due("searched(0) ahead of a search", x.searched(0), 0);
        x.search(0);
        EDGES.due("searched(0) with all left to try", x.searched(0), 0);
        x.search(1);
        EDGES.due("searched(0) with one left to try", x.searched(0), 0);
        x.search(1);
        EDGES.due("searched(0) with none left", x.searched(0), 1);
    }

    private static void searchedTries() {
        EDGES.says("Promise 14", "TRIES (1)");
        SudokuGrader x = Grids.of(Grids.HARD);
        EDGES.due("searched(1) ahead of a search", x.searched(1), 0);
        x.search(0);
        EDGES.due("searched(1) of 0 tries", x.searched(1), 0);
        for (int i = 1; i <= HARD_TRIES; i++) {
            x.search(1);
            EDGES.due("searched(1)", x.searched(1), i);
        }
        x.search(1);
        EDGES.due("searched(1) after the end", x.searched(1), HARD_TRIES);
    }

    private static void searchedJustOne() {
        EDGES.says("Promise 14", "1 if there is just one solution, 0 if none or several, NONE as long as it has not "
                + "ended (2)");
        SudokuGrader none = Grids.of(NONE_OF_TWO);
        EDGES.due("searched(2) ahead of a search", none.searched(2), -1);
        none.search(1);
        EDGES.due("searched(2), none found yet", none.searched(2), -1);
        none.search(1);
        EDGES.due("searched(2) of none", none.searched(2), 0);
        SudokuGrader two = Grids.of(Grids.TWO);
        two.search(1);
        EDGES.due("searched(2), one found yet", two.searched(2), -1);
        two.search(1);
        EDGES.due("searched(2) of two", two.searched(2), 0);
        SudokuGrader four = Grids.of(Grids.FOUR);
        four.search(300);
        EDGES.due("searched(2) of four", four.searched(2), 0);
        SudokuGrader one = Grids.of(ONE_OF_TWO);
        one.search(2);
        EDGES.due("searched(2) of one", one.searched(2), 1);
    }

    private static void searchedRefused() {
        EDGES.says("Promise 14", "NONE for others.");
        for (State state : State.values()) {
            for (int what : new int[] {-1, 3, 4, LEAST, GREATEST}) {
                EDGES.due("searched(" + what + ") " + state.words, state.make().searched(what), -1);
            }
        }
    }

    private static void solutionsAsTheyAreComeTo() {
        EDGES.says("Promise 15", "The digit of a cell in the k-th solution found.");
        SudokuGrader x = Grids.of(Grids.TWO);
        x.search(1);
        for (int cell = 0; cell < 81; cell++) {
            solution(x, 0, cell, Grids.SOLVED.charAt(cell) - '0');
        }
        x.search(1);
        for (int cell = 0; cell < 81; cell++) {
            int first = Grids.SOLVED.charAt(cell) - '0';
            boolean turned = Grids.TWO.charAt(cell) == '0';
            solution(x, 0, cell, first);
            solution(x, 1, cell, turned ? 13 - first : first);
        }
    }

    private static void solutionRefused() {
        EDGES.says("Promise 15", "NONE: there is none.");
        solution(new SudokuGrader(), 0, 0, -1);
        SudokuGrader x = Grids.of(Grids.TWO);
        x.search(0);
        solution(x, 0, 0, -1);
        x.search(1);
        solution(x, 0, 0, 5);
        solution(x, 1, 0, -1);
        x.search(1);
        solution(x, 1, 0, 5);
        for (int k : new int[] {-1, 2, 3, LEAST, GREATEST}) {
            solution(x, k, 0, -1);
            solution(x, k, 80, -1);
        }
        for (int cell : new int[] {-1, 81, 162, LEAST, GREATEST}) {
            solution(x, 0, cell, -1);
            solution(x, 1, cell, -1);
        }
        SudokuGrader none = Grids.of(NONE_OF_TWO);
        none.search(300);
        solution(none, 0, 0, -1);
    }
}
