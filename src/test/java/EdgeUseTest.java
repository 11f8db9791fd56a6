/** The boundary of an object's use: its 512th call is answered as the first ones are. */
public final class EdgeUseTest {
    private static final Edges EDGES = new Edges();
    private static final int MOST_CALLS = 512;

    public static void main(String[] args) {
        EDGES.says("What it is", "An object is used for at most 512 calls after it has been made; what later calls answer "
                + "is free.");
        manyTries();
        manySteps();
        manyClaims();
        EDGES.end();
    }

    private static void manyTries() {
        SudokuGrader x = Grids.of(Puzzles.ENDLESS);
        int calls = 9;
        int tries = 0;
        while (calls < MOST_CALLS - 3) {
            x.search(300);
            calls++;
            tries += 300;
        }
        EDGES.due("call 510, searched(0)", x.searched(0), 0);
        EDGES.due("call 511, searched(1)", x.searched(1), tries);
        EDGES.due("call 512, search(0)", x.search(0), 0);
    }

    /** All steps again and again: what one round keeps must not be added to the next one's. */
    private static void manySteps() {
        SudokuGrader x = Grids.of(Grids.CHAINS);
        int digit = Grids.CHAINS.charAt(1) - '0';
        int calls = 9;
        while (calls < MOST_CALLS - 11) {
            x.give(1, digit);
            x.grade(30);
            x.grade(30);
            x.grade(30);
            EDGES.due("call " + (calls + 5) + ", grade(30)", x.grade(30), 26);
            EDGES.due("call " + (calls + 6) + ", replay(0)", x.replay(0), 116);
            calls += 6;
        }
        while (calls < MOST_CALLS) {
            calls++;
            EDGES.due("call " + calls + ", told(0)", x.told(0), 116);
        }
    }

    /** Row 0 has 9 in cells 0 and 1 alone: a chain, as long as it may be, that is taken once. */
    private static void manyClaims() {
        SudokuGrader x = new SudokuGrader();
        x.row(0, 1234567);
        int calls = 1;
        while (calls < MOST_CALLS - 11) {
            for (int i = 1; i <= 24; i++) {
                EDGES.due("call " + (calls + i) + ", node", x.node(i % 2 == 1 ? 8 : 17), i);
            }
            EDGES.due("call " + (calls + 25) + ", claim(13, 0, 0)", x.claim(13, 0, 0), calls == 1 ? 6 : -1);
            calls += 25;
        }
        while (calls < MOST_CALLS) {
            calls++;
            EDGES.due("call " + calls + ", candidates(20, 1)", x.candidates(20, 1), 255);
        }
    }
}
