import java.util.Map;

/** Checks of boundary cases: each stands for a sentence of the document and names it if it breaks. */
final class Edges {
    static final int LEAST = Integer.MIN_VALUE;
    static final int GREATEST = Integer.MAX_VALUE;

    private final Check check = new Check();
    private String words;

    /** The words of the document, as they stand there, that the checks from here on stand for. */
    void says(String where, String sentence) {
        words = where + " says '" + sentence + "', but ";
    }

    void due(String call, long got, long want) {
        check.due(words + call, got, want);
    }

    void due(String call, boolean got, boolean want) {
        check.due(words + call, got, want);
    }

    void same(String when, Map<String, Integer> got, Map<String, Integer> want) {
        check.due(words + when + ": as many answers", got.size(), want.size());
        for (String call : want.keySet()) {
            check.due(words + when + ": " + call, got.getOrDefault(call, LEAST), want.get(call));
        }
    }

    /**
     * The call answers NONE (or false) and does nothing: what is read is the same before and after
     * it, and what goes on from there is as on a twin that never had the call.
     */
    void refused(Call call, int answer) {
        for (State state : State.values()) {
            refusedIn(state, call, answer);
        }
    }

    void refusedIn(State state, Call call, int answer) {
        SudokuGrader x = state.make();
        Map<String, Integer> before = Look.at(x);
        due(call.name + " " + state.words, call.on(x), answer);
        same("after " + call.name + " " + state.words, Look.at(x), before);
        same("going on after " + call.name + " " + state.words, Look.goingOn(x), Look.goingOn(state.make()));
    }

    void end() {
        check.end();
    }
}
