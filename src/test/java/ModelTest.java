import java.util.List;
import java.util.Random;
import java.util.Set;

/** All promises: random runs of calls, each answer compared with the plain model's. */
public final class ModelTest {
    private static final int MOST_CALLS = 512;

    private final Check check;
    private final Random random;
    private final int[] rulesSeen = new int[14];
    private final int[] claimsTaken = new int[14];
    private SudokuGrader real;
    private Plain plain;
    private String run;
    private int calls;

    private ModelTest(Check check, long seed) {
        this.check = check;
        random = new Random(seed);
    }

    public static void main(String[] args) {
        int rounds = args.length > 1 ? Integer.parseInt(args[1]) : 3;
        long seed = args.length > 2 ? Long.parseLong(args[2]) : 1;
        Check check = new Check();
        ModelTest test = new ModelTest(check, seed);
        for (String known : Puzzles.KNOWN) {
            test.runOn(known, Puzzles.of(known));
        }
        for (String rare : Puzzles.RARE) {
            test.runOn(rare, Puzzles.of(rare));
        }
        for (int rule = 0; rule < 14; rule++) {
            check.due("rule " + rule + " was seen", test.rulesSeen[rule] > 0, true);
        }
        Puzzles puzzles = new Puzzles(seed);
        for (int i = 0; i < rounds; i++) {
            test.runOn("minimal " + i, puzzles.minimal());
            test.runOn("loose " + i, puzzles.loose(1 + i % 4));
            test.runOn("broken " + i, puzzles.broken(1 + i % 3));
            test.runOn("scattered " + i, puzzles.scattered(5 + i % 40));
            test.runOn("edges " + i, new int[81]);
        }
        System.out.println("steps by rule " + java.util.Arrays.toString(test.rulesSeen)
                + ", claims by rule " + java.util.Arrays.toString(test.claimsTaken));
        check.end();
    }

    private void runOn(String name, int[] cells) {
        real = new SudokuGrader();
        plain = new Plain();
        run = name + ": ";
        calls = 0;
        putGiven(cells);
        gradeSome();
        for (int i = 0; i < 40; i++) {
            claimSomething();
            searchSomething();
        }
        gradeAll();
        walkTheTrace();
        while (calls < MOST_CALLS - 30) {
            askSomething();
        }
        for (Plain.Step s : plain.trace) {
            rulesSeen[s.rule]++;
        }
        if (random.nextInt(3) == 0) {
            due("give(40, 7)", real.give(40, 7) ? 1 : 0, plain.give(40, 7) ? 1 : 0);
        }
        // one asking makes up to two calls
        while (calls < MOST_CALLS - 1) {
            askSomething();
        }
    }

    private void due(String call, int got, int want) {
        calls++;
        check.due(run + "call " + calls + ", " + call, got, want);
    }

    private void putGiven(int[] cells) {
        if (random.nextBoolean()) {
            for (int r = 0; r < 9; r++) {
                int v = 0;
                for (int k = 0; k < 9; k++) {
                    v = 10 * v + cells[9 * r + k];
                }
                due("row(" + r + ", " + v + ")", real.row(r, v) ? 1 : 0, plain.row(r, v) ? 1 : 0);
            }
            return;
        }
        for (int c = 0; c < 81; c++) {
            if (cells[c] != 0) {
                int d = cells[c];
                due("give(" + c + ", " + d + ")", real.give(c, d) ? 1 : 0, plain.give(c, d) ? 1 : 0);
            }
        }
    }

    /** The checker is brought to the middle of the trace, where claims of all rules hold. */
    private void gradeSome() {
        for (int i = random.nextInt(3); i >= 0; i--) {
            int n = random.nextInt(31);
            due("grade(" + n + ")", real.grade(n), plain.grade(n));
        }
        if (random.nextInt(4) != 0) {
            due("replay(0)", real.replay(0), plain.replay(0));
        }
    }

    private void gradeAll() {
        for (int i = 0; i < 12; i++) {
            int n = i % 4 == 3 ? random.nextInt(35) - 2 : 30;
            due("grade(" + n + ")", real.grade(n), plain.grade(n));
            askTold();
        }
    }

    private void askTold() {
        int what = random.nextInt(7) - 1;
        due("told(" + what + ")", real.told(what), plain.told(what));
    }

    private void claimSomething() {
        switch (random.nextInt(6)) {
            case 0:
                claim(random.nextInt(16) - 1, random.nextInt(84) - 1, random.nextInt(520) - 2);
                break;
            case 1:
                int n = random.nextInt(733) - 2;
                due("node(" + n + ")", real.node(n), plain.node(n));
                break;
            case 2:
                if (random.nextInt(8) == 0) {
                    int i = random.nextInt(plain.trace.size() + 3) - 1;
                    due("replay(" + i + ")", real.replay(i), plain.replay(i));
                }
                break;
            case 3:
                putChain(Plain.firstChain(plain.checker));
                break;
            default:
                claimOneThatHolds(random.nextInt(13));
        }
    }

    private void claim(int rule, int p, int q) {
        int want = plain.claim(rule, p, q);
        if (want > 0) {
            claimsTaken[rule]++;
        }
        due("claim(" + rule + ", " + p + ", " + q + ")", real.claim(rule, p, q), want);
    }

    /** From a random place on, the first instance at the checker's candidates: not the trace's. */
    private void claimOneThatHolds(int rule) {
        List<Integer> qs = Plain.qs(rule);
        int from = random.nextInt(27);
        for (int i = 0; i < 81; i++) {
            int p = (from + i) % 81;
            for (int q : qs) {
                Set<Integer> goes = Plain.byRule(plain.checker, rule, p, q);
                if (!goes.isEmpty()) {
                    claim(rule, p, q);
                    return;
                }
            }
        }
    }

    private void putChain(List<Integer> chain) {
        if (chain == null || chain.size() + calls > MOST_CALLS - 60) {
            return;
        }
        boolean spoil = random.nextInt(4) == 0;
        if (!plain.nodes.isEmpty()) {
            claim(13, 0, 0);
        }
        for (int n : chain) {
            int put = spoil && random.nextInt(6) == 0 ? random.nextInt(729) : n;
            due("node(" + put + ")", real.node(put), plain.node(put));
        }
        claim(13, random.nextInt(), random.nextInt());
    }

    /** Each step is claimed by itself, with its nodes put by hand. */
    private void walkTheTrace() {
        int from = random.nextInt(plain.trace.size() + 1);
        for (int i = from; i < plain.trace.size() && calls < MOST_CALLS - 100; i++) {
            Plain.Step s = plain.trace.get(i);
            for (int what = 0; what < 5; what++) {
                due("step(" + i + ", " + what + ")", real.step(i, what), plain.step(i, what));
            }
            for (int k = 0; k <= s.chain.size(); k++) {
                due("link(" + i + ", " + k + ")", real.link(i, k), plain.link(i, k));
            }
            int k = random.nextInt(s.gone.size() + 1);
            due("gone(" + i + ", " + k + ")", real.gone(i, k), plain.gone(i, k));
        }
        due("replay(0)", real.replay(0), plain.replay(0));
    }

    private void searchSomething() {
        if (random.nextInt(4) == 0) {
            int n = random.nextInt(6) == 0 ? random.nextInt(310) - 4 : random.nextInt(8);
            if (plain.searched(1) < 100) {
                due("search(" + n + ")", real.search(n), plain.search(n));
            }
        }
        int what = random.nextInt(5) - 1;
        due("searched(" + what + ")", real.searched(what), plain.searched(what));
        int k = random.nextInt(4) - 1;
        int cell = random.nextInt(83) - 1;
        due("solution(" + k + ", " + cell + ")", real.solution(k, cell), plain.solution(k, cell));
    }

    private void askSomething() {
        int i = random.nextInt(plain.trace.size() + 4) - 2;
        int cell = random.nextInt(83) - 1;
        switch (random.nextInt(7)) {
            case 0:
                int who = random.nextInt(5) - 1;
                due("candidates(" + cell + ", " + who + ")", real.candidates(cell, who), plain.candidates(cell, who));
                break;
            case 1:
                int what = random.nextInt(7) - 1;
                due("step(" + i + ", " + what + ")", real.step(i, what), plain.step(i, what));
                break;
            case 2:
                int k = random.nextInt(22) - 2;
                due("gone(" + i + ", " + k + ")", real.gone(i, k), plain.gone(i, k));
                break;
            case 3:
                int j = random.nextInt(28) - 2;
                due("link(" + i + ", " + j + ")", real.link(i, j), plain.link(i, j));
                break;
            case 4:
                askTold();
                break;
            case 5:
                refusedOnes(cell);
                break;
            default:
                due("candidates(" + cell + ", 0)", real.candidates(cell, 0), plain.candidates(cell, 0));
        }
    }

    private void refusedOnes(int cell) {
        int digit = random.nextBoolean() ? 10 : -1;
        due("give(" + cell + ", " + digit + ")", real.give(cell, digit) ? 1 : 0, plain.give(cell, digit) ? 1 : 0);
        int r = random.nextBoolean() ? 9 : -1;
        due("row(" + r + ", 123)", real.row(r, 123) ? 1 : 0, plain.row(r, 123) ? 1 : 0);
    }
}
