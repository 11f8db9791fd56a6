/** Moments at which a call may come; each time anew, so that two of them are twins. */
enum State {
    NEW("on a new object"),
    UNDER_WAY("in the midst of all"),
    ENDED("when all has ended");

    final String words;

    State(String words) {
        this.words = words;
    }

    SudokuGrader make() {
        switch (this) {
            case UNDER_WAY:
                return underWay();
            case ENDED:
                return ended();
            default:
                return new SudokuGrader();
        }
    }

    /**
     * The checker stands just before the trace's first chain, whose nodes are put; the trace and
     * the search, with one solution found, have gone on, and both have more to do.
     */
    private static SudokuGrader underWay() {
        SudokuGrader x = Grids.of(Grids.CHAINS);
        int ahead = stepsAheadOfChain();
        gradeBy(x, ahead);
        x.replay(0);
        x.grade(3);
        int nodes = x.step(ahead, 4);
        for (int k = 0; k < nodes; k++) {
            x.node(x.link(ahead, k));
        }
        x.search(6);
        return x;
    }

    private static int stepsAheadOfChain() {
        SudokuGrader x = Grids.graded(Grids.CHAINS);
        int i = 0;
        while (i < x.told(0) && x.step(i, 0) != 13) {
            i++;
        }
        return i;
    }

    private static void gradeBy(SudokuGrader x, int steps) {
        for (int left = steps; left > 0; left -= 30) {
            x.grade(Math.min(left, 30));
        }
    }

    /** Two solutions, 24 nodes, no step left to do. */
    private static SudokuGrader ended() {
        SudokuGrader x = Grids.graded(Grids.TWO);
        x.replay(0);
        for (int i = 0; i < 24; i++) {
            x.node(i);
        }
        x.search(300);
        return x;
    }
}
