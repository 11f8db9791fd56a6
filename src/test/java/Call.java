import java.util.function.ToIntFunction;

/** A call with its arguments, by name; of a boolean answer true is 1. */
final class Call {
    final String name;
    private final ToIntFunction<SudokuGrader> body;

    private Call(String name, ToIntFunction<SudokuGrader> body) {
        this.name = name;
        this.body = body;
    }

    int on(SudokuGrader x) {
        return body.applyAsInt(x);
    }

    static Call give(int cell, int digit) {
        return new Call("give(" + cell + ", " + digit + ")", x -> x.give(cell, digit) ? 1 : 0);
    }

    static Call row(int r, int v) {
        return new Call("row(" + r + ", " + v + ")", x -> x.row(r, v) ? 1 : 0);
    }

    static Call grade(int n) {
        return new Call("grade(" + n + ")", x -> x.grade(n));
    }

    static Call node(int n) {
        return new Call("node(" + n + ")", x -> x.node(n));
    }

    static Call claim(int rule, int p, int q) {
        return new Call("claim(" + rule + ", " + p + ", " + q + ")", x -> x.claim(rule, p, q));
    }

    static Call replay(int i) {
        return new Call("replay(" + i + ")", x -> x.replay(i));
    }

    /** A step so far beyond the trace's last one. */
    static Call replayBeyond(int more) {
        return new Call("replay(told(0) + " + more + ")", x -> x.replay(x.told(0) + more));
    }

    static Call search(int n) {
        return new Call("search(" + n + ")", x -> x.search(n));
    }
}
