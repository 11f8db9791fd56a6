import java.util.Arrays;

/**
 * A grader of sudokus: candidates go by named rules, the first that has an instance each time;
 * each step is written down and can be claimed before a checker that knows the rules alone;
 * what is left is searched for one, two or no solutions.
 */
public final class SudokuGrader {
    /** There is none. */
    public static final int NONE = -1;

    private static final int CELLS = 81;
    private static final int HOUSES = 27;
    private static final int FIRST_COLUMN = 9;
    private static final int FIRST_BOX = 18;
    private static final int NODES = 729;
    private static final int EVERY_DIGIT = 511;
    private static final int GREATEST_ROW = 999999999;
    private static final int CHAIN = 13;
    private static final int MOST_PAIRS = 12;
    private static final int MOST_LINKS = 24;
    private static final int MOST_STEPS_A_CALL = 30;
    private static final int MOST_TRIES_A_CALL = 300;
    private static final int ENOUGH_SOLUTIONS = 2;

    private final int[] given;
    private final Board now;
    private final Board checked;
    private final Going going;
    private final Rules rules;
    private final Chains chains;
    private final Trace trace;
    private final Solver solver;
    private final int[] putNodes;
    private int putCount;
    private boolean gradingEnded;

    public SudokuGrader() {
        Shape shape = new Shape();
        given = new int[CELLS];
        now = new Board(shape);
        checked = new Board(shape);
        going = new Going(shape);
        rules = new Rules(shape, going);
        chains = new Chains(shape, going);
        trace = new Trace();
        solver = new Solver(shape);
        putNodes = new int[MOST_LINKS];
        startAnew();
    }

    public boolean give(int cell, int digit) {
        if (!isCell(cell) || digit < 0 || digit > 9) {
            return false;
        }
        given[cell] = digit;
        startAnew();
        return true;
    }

    public boolean row(int r, int v) {
        if (r < 0 || r > 8 || v < 0 || v > GREATEST_ROW) {
            return false;
        }
        int rest = v;
        for (int column = 8; column >= 0; column--) {
            given[9 * r + column] = rest % 10;
            rest = rest / 10;
        }
        startAnew();
        return true;
    }

    public int grade(int n) {
        if (n < 0 || n > MOST_STEPS_A_CALL) {
            return NONE;
        }
        int done = 0;
        for (int turn = 0; turn < n && !gradingEnded; turn++) {
            if (takeFirstStep()) {
                done++;
            } else {
                gradingEnded = true;
            }
        }
        return done;
    }

    public int candidates(int cell, int who) {
        if (!isCell(cell)) {
            return NONE;
        }
        switch (who) {
            case 0:
                return now.cells[cell];
            case 1:
                return checked.cells[cell];
            case 2:
                return atFirst(given[cell]);
            default:
                return NONE;
        }
    }

    public int told(int what) {
        switch (what) {
            case 0:
                return trace.size;
            case 1:
                return trace.score;
            case 2:
                return trace.level;
            case 3:
                return now.logged;
            case 4:
                return gradingEnded ? 1 : 0;
            default:
                return NONE;
        }
    }

    public int step(int i, int what) {
        if (!trace.has(i)) {
            return NONE;
        }
        switch (what) {
            case 0:
                return trace.rule[i];
            case 1:
                return trace.p[i];
            case 2:
                return trace.q[i];
            case 3:
                return trace.went[i];
            case 4:
                return trace.linkCount[i];
            default:
                return NONE;
        }
    }

    public int gone(int i, int k) {
        if (!trace.has(i) || k < 0 || k >= trace.went[i]) {
            return NONE;
        }
        return now.logAt(trace.goneFrom[i] + k);
    }

    public int link(int i, int k) {
        if (!trace.has(i) || k < 0 || k >= trace.linkCount[i]) {
            return NONE;
        }
        return trace.linkAt(trace.linkFrom[i] + k);
    }

    public int node(int n) {
        if (n < 0 || n >= NODES || putCount >= MOST_LINKS) {
            return NONE;
        }
        putNodes[putCount] = n;
        putCount++;
        return putCount;
    }

    public int claim(int rule, int p, int q) {
        if (rule != CHAIN) {
            return takenAway(rules.mark(checked, rule, p, q));
        }
        int went = takenAway(chains.mark(checked, putNodes, 0, putCount));
        putCount = 0;
        return went;
    }

    public int replay(int i) {
        if (i < 0 || i > trace.size) {
            return NONE;
        }
        putCount = 0;
        int taken = 0;
        for (int k = i; k < trace.size; k++) {
            if (claimWritten(k) == NONE) {
                break;
            }
            taken++;
        }
        return taken;
    }

    public int search(int n) {
        if (n < 0 || n > MOST_TRIES_A_CALL) {
            return NONE;
        }
        solver.begin(given);
        for (int turn = 0; turn < n && !solver.ended; turn++) {
            solver.tryNext();
        }
        return solver.found;
    }

    public int searched(int what) {
        switch (what) {
            case 0:
                return solver.ended ? 1 : 0;
            case 1:
                return solver.tries;
            case 2:
                if (!solver.ended) {
                    return NONE;
                }
                return solver.found == 1 ? 1 : 0;
            default:
                return NONE;
        }
    }

    public int solution(int k, int cell) {
        if (k < 0 || k >= solver.found || k >= ENOUGH_SOLUTIONS || !isCell(cell)) {
            return NONE;
        }
        return solver.answers[CELLS * k + cell];
    }

    private void startAnew() {
        now.start(given);
        checked.start(given);
        trace.forget();
        solver.forget();
        putCount = 0;
        gradingEnded = false;
    }

    private boolean takeFirstStep() {
        for (int rule = 0; rule < CHAIN; rule++) {
            int goes = rules.markFirst(now, rule);
            if (goes > 0) {
                trace.write(rule, rules.foundP, rules.foundQ, now.logged, goes);
                going.leave(now);
                return true;
            }
        }
        int goes = chains.markFirst(now);
        if (goes <= 0) {
            return false;
        }
        trace.write(CHAIN, chains.count / 2, chains.chain[0], now.logged, goes);
        trace.writeLinks(chains.chain, chains.count);
        going.leave(now);
        return true;
    }

    private int claimWritten(int i) {
        if (trace.rule[i] == CHAIN) {
            return takenAway(chains.mark(checked, trace.links, trace.linkFrom[i], trace.linkCount[i]));
        }
        return takenAway(rules.mark(checked, trace.rule[i], trace.p[i], trace.q[i]));
    }

    private int takenAway(int goes) {
        if (goes <= 0) {
            return NONE;
        }
        going.leave(checked);
        return goes;
    }

    private static boolean isCell(int cell) {
        return cell >= 0 && cell < CELLS;
    }

    private static int atFirst(int digit) {
        return digit >= 1 && digit <= 9 ? 1 << (digit - 1) : EVERY_DIGIT;
    }

    private static boolean isOneBit(int bits) {
        return bits != 0 && (bits & (bits - 1)) == 0;
    }

    /** The place of a lone bit. */
    private static int placeOf(int oneBit) {
        return Integer.bitCount(oneBit - 1);
    }

    /** Where the cells and houses lie; the same for every board. */
    private static final class Shape {
        static final int NEAR = 21;

        final int[] member = new int[HOUSES * 9];
        final int[] houseOf = new int[CELLS * 3];
        final int[] positionOf = new int[CELLS * 3];
        /** A cell's peers and itself, rising, so that nodes met along it rise too. */
        final int[] near = new int[CELLS * NEAR];

        Shape() {
            for (int cell = 0; cell < CELLS; cell++) {
                int r = cell / 9;
                int c = cell % 9;
                enter(cell, 0, r, c);
                enter(cell, 1, FIRST_COLUMN + c, r);
                enter(cell, 2, FIRST_BOX + 3 * (r / 3) + c / 3, 3 * (r % 3) + c % 3);
            }
            for (int cell = 0; cell < CELLS; cell++) {
                listNear(cell);
            }
        }

        private void enter(int cell, int kind, int house, int position) {
            member[9 * house + position] = cell;
            houseOf[3 * cell + kind] = house;
            positionOf[3 * cell + kind] = position;
        }

        private void listNear(int cell) {
            int count = 0;
            for (int other = 0; other < CELLS && count < NEAR; other++) {
                if (shareHouse(cell, other)) {
                    near[NEAR * cell + count] = other;
                    count++;
                }
            }
        }

        boolean shareHouse(int a, int b) {
            return houseOf[3 * a] == houseOf[3 * b]
                    || houseOf[3 * a + 1] == houseOf[3 * b + 1]
                    || houseOf[3 * a + 2] == houseOf[3 * b + 2];
        }
    }

    /** Candidates, looked at by cell and by house, and a log of those that went. */
    private static final class Board {
        final Shape shape;
        final int[] cells = new int[CELLS];
        /** Of 9 times a house, and a digit less 1: the positions that have it, as bits. */
        final int[] places = new int[HOUSES * 9];
        private final int[] log = new int[NODES];
        int logged;

        Board(Shape shape) {
            this.shape = shape;
        }

        void start(int[] given) {
            logged = 0;
            Arrays.fill(places, 0);
            for (int cell = 0; cell < CELLS; cell++) {
                cells[cell] = 0;
                int bits = atFirst(given[cell]);
                for (int d = 0; d < 9; d++) {
                    if ((bits >> d & 1) != 0) {
                        flip(9 * cell + d);
                    }
                }
            }
        }

        boolean has(int node) {
            return node >= 0 && node < NODES && (cells[node / 9] >> node % 9 & 1) != 0;
        }

        int logAt(int i) {
            return i >= 0 && i < logged && i < NODES ? log[i] : NONE;
        }

        void drop(int node) {
            if (has(node) && logged < NODES) {
                flip(node);
                log[logged] = node;
                logged++;
            }
        }

        void undo(int mark) {
            for (int i = logged - 1; i >= mark && i >= 0; i--) {
                flip(log[i]);
                logged = i;
            }
        }

        private void flip(int node) {
            int cell = node / 9;
            int d = node % 9;
            cells[cell] ^= 1 << d;
            for (int kind = 0; kind < 3; kind++) {
                int house = shape.houseOf[3 * cell + kind];
                places[9 * house + d] ^= 1 << shape.positionOf[3 * cell + kind];
            }
        }
    }

    /** The candidates that an instance makes go; none are held between two uses. */
    private static final class Going {
        private final Shape shape;
        private final int[] held = new int[CELLS];
        int count;

        Going(Shape shape) {
            this.shape = shape;
        }

        void add(Board board, int cell, int bits) {
            int more = board.cells[cell] & bits & ~held[cell];
            held[cell] |= more;
            count += Integer.bitCount(more);
        }

        void addPlaces(Board board, int house, int d, int positions) {
            int there = positions & board.places[9 * house + d];
            for (int position = 0; position < 9 && there >> position != 0; position++) {
                int cell = shape.member[9 * house + position];
                if ((there >> position & 1) != 0 && (held[cell] >> d & 1) == 0) {
                    held[cell] |= 1 << d;
                    count++;
                }
            }
        }

        /** Cells and digits rise here, so that a step's part of the log rises by nodes. */
        void leave(Board board) {
            for (int cell = 0; cell < CELLS; cell++) {
                int bits = held[cell];
                for (int d = 0; d < 9 && bits >> d != 0; d++) {
                    if ((bits >> d & 1) != 0) {
                        board.drop(9 * cell + d);
                    }
                }
                held[cell] = 0;
            }
            count = 0;
        }
    }

    /** The rules 0 to 12; those of 4 to 12 by Subsets. */
    private static final class Rules {
        private static final int THREE_ACROSS = 7;
        private static final int THREE_DOWN = 73;

        private final Shape shape;
        private final Going going;
        private final Subsets subsets;
        int foundP;
        int foundQ;

        Rules(Shape shape, Going going) {
            this.shape = shape;
            this.going = going;
            subsets = new Subsets(shape, going);
        }

        /** How many go by the rule's first instance (0: it has none). */
        int markFirst(Board board, int rule) {
            if (rule > 3) {
                return markFirstSubset(board, rule);
            }
            int end = rule == 0 ? CELLS : HOUSES;
            for (int p = 0; p < end; p++) {
                for (int q = 1; q <= 9; q++) {
                    int goes = mark(board, rule, p, q);
                    if (goes > 0) {
                        foundP = p;
                        foundQ = q;
                        return goes;
                    }
                }
            }
            return 0;
        }

        private int markFirstSubset(Board board, int rule) {
            for (int p = 0; p < HOUSES; p++) {
                int set = subsets.first(board, rule, p);
                if (set != 0) {
                    foundP = p;
                    foundQ = set;
                    return subsets.mark(board, rule, p, set);
                }
            }
            return 0;
        }

        /** How many go by the instance (0: it is none). */
        int mark(Board board, int rule, int p, int q) {
            if (rule > 3) {
                return subsets.mark(board, rule, p, q);
            }
            if (p < 0 || q < 1 || q > 9) {
                return 0;
            }
            if (rule == 0 && p < CELLS) {
                markSingle(board, p, q - 1);
            } else if (rule == 1 && p < HOUSES) {
                markHidden(board, p, q - 1);
            } else if (rule == 2 && p >= FIRST_BOX && p < HOUSES) {
                markPointing(board, p, q - 1);
            } else if (rule == 3 && p < FIRST_BOX) {
                markClaiming(board, p, q - 1);
            }
            return going.count;
        }

        private void markSingle(Board board, int cell, int d) {
            if (board.cells[cell] != 1 << d) {
                return;
            }
            for (int kind = 0; kind < 3; kind++) {
                int house = shape.houseOf[3 * cell + kind];
                int own = 1 << shape.positionOf[3 * cell + kind];
                going.addPlaces(board, house, d, ~own);
            }
        }

        private void markHidden(Board board, int house, int d) {
            int positions = board.places[9 * house + d];
            if (isOneBit(positions)) {
                going.add(board, shape.member[9 * house + placeOf(positions)], EVERY_DIGIT & ~(1 << d));
            }
        }

        private void markPointing(Board board, int box, int d) {
            int positions = board.places[9 * box + d];
            if (positions == 0) {
                return;
            }
            int boxRow = (box - FIRST_BOX) / 3;
            int boxColumn = (box - FIRST_BOX) % 3;
            for (int i = 0; i < 3; i++) {
                if ((positions & ~(THREE_ACROSS << 3 * i)) == 0) {
                    going.addPlaces(board, 3 * boxRow + i, d, ~(THREE_ACROSS << 3 * boxColumn));
                    return;
                }
            }
            for (int i = 0; i < 3; i++) {
                if ((positions & ~(THREE_DOWN << i)) == 0) {
                    going.addPlaces(board, FIRST_COLUMN + 3 * boxColumn + i, d, ~(THREE_ACROSS << 3 * boxRow));
                    return;
                }
            }
        }

        private void markClaiming(Board board, int line, int d) {
            int positions = board.places[9 * line + d];
            if (positions == 0) {
                return;
            }
            for (int third = 0; third < 3; third++) {
                if ((positions & ~(THREE_ACROSS << 3 * third)) == 0) {
                    markClaimed(board, line, third, d);
                    return;
                }
            }
        }

        private void markClaimed(Board board, int line, int third, int d) {
            if (line < FIRST_COLUMN) {
                int box = FIRST_BOX + 3 * (line / 3) + third;
                going.addPlaces(board, box, d, ~(THREE_ACROSS << 3 * (line % 3)));
            } else {
                int column = line - FIRST_COLUMN;
                int box = FIRST_BOX + 3 * third + column / 3;
                going.addPlaces(board, box, d, ~(THREE_DOWN << column % 3));
            }
        }
    }

    /**
     * The rules 4 to 12. All of them ask of nine masks whether k have k bits together, which then
     * go from the other masks: of a house's cells (naked), of its digits (hidden), of a digit's
     * lines (fish).
     */
    private static final class Subsets {
        private static final int NAKED = 1;
        private static final int HIDDEN = 2;
        private static final int FISH = 3;
        private static final int FOR_COLUMNS = 16;
        private static final int[] KIND = {0, 0, 0, 0, NAKED, HIDDEN, NAKED, HIDDEN, FISH, NAKED, HIDDEN, FISH, FISH};
        private static final int[] SIZE = {0, 0, 0, 0, 2, 2, 3, 3, 2, 4, 4, 3, 4};

        private final Shape shape;
        private final Going going;
        private final int[] masks = new int[9];

        Subsets(Shape shape, Going going) {
            this.shape = shape;
            this.going = going;
        }

        /** The first q of which something goes at p (0: there is none). */
        int first(Board board, int rule, int p) {
            if (!load(board, rule, p)) {
                return 0;
            }
            return pick(masks, SIZE[rule], SIZE[rule], 0, 0, 0);
        }

        int mark(Board board, int rule, int p, int q) {
            if (q < 0 || q > EVERY_DIGIT || !load(board, rule, p) || Integer.bitCount(q) != SIZE[rule]) {
                return 0;
            }
            int union = 0;
            for (int i = 0; i < 9; i++) {
                if ((q >> i & 1) != 0) {
                    union |= masks[i];
                }
            }
            if (Integer.bitCount(union) != SIZE[rule]) {
                return 0;
            }
            for (int i = 0; i < 9; i++) {
                if ((q >> i & 1) == 0) {
                    markFrom(board, KIND[rule], p, i, masks[i] & union);
                }
            }
            return going.count;
        }

        private void markFrom(Board board, int kind, int p, int i, int bits) {
            if (kind == NAKED) {
                going.add(board, shape.member[9 * p + i], bits);
            } else if (kind == HIDDEN) {
                going.addPlaces(board, p, i, bits);
            } else {
                going.addPlaces(board, baseLine(p, i), fishDigit(p), bits);
            }
        }

        private boolean load(Board board, int rule, int p) {
            if (rule < 4 || rule >= CHAIN || p < 0 || p >= HOUSES) {
                return false;
            }
            int kind = KIND[rule];
            if (kind == FISH && (fishDigit(p) < 0 || fishDigit(p) > 8)) {
                return false;
            }
            for (int i = 0; i < 9; i++) {
                if (kind == NAKED) {
                    masks[i] = board.cells[shape.member[9 * p + i]];
                } else if (kind == HIDDEN) {
                    masks[i] = board.places[9 * p + i];
                } else {
                    masks[i] = board.places[9 * baseLine(p, i) + fishDigit(p)];
                }
            }
            return true;
        }

        private static int fishDigit(int p) {
            return (p < FOR_COLUMNS ? p : p - FOR_COLUMNS) - 1;
        }

        private static int baseLine(int p, int i) {
            return p < FOR_COLUMNS ? i : FIRST_COLUMN + i;
        }

        /** Goes at most four deep: left falls by one each time. */
        private static int pick(int[] masks, int size, int left, int from, int set, int union) {
            if (left <= 0) {
                return Integer.bitCount(union) == size && touchesOthers(masks, set, union) ? set : 0;
            }
            for (int i = from; i <= 9 - left; i++) {
                int wider = union | masks[i];
                if (Integer.bitCount(wider) <= size) {
                    int picked = pick(masks, size, left - 1, i + 1, set | 1 << i, wider);
                    if (picked != 0) {
                        return picked;
                    }
                }
            }
            return 0;
        }

        private static boolean touchesOthers(int[] masks, int set, int union) {
            for (int i = 0; i < 9; i++) {
                if ((set >> i & 1) == 0 && (masks[i] & union) != 0) {
                    return true;
                }
            }
            return false;
        }
    }

    /** Rule 13. A chain's nodes are by turns at odd places (heads) and even places (tails). */
    private static final class Chains {
        private static final int MOST_STRONG = 4;
        private static final int MOST_WEAK = 28;

        private final Shape shape;
        private final Going going;
        private final int[] strong = new int[NODES * MOST_STRONG];
        private final int[] strongCount = new int[NODES];
        private final int[] weak = new int[MOST_WEAK];
        private int weakCount;
        private final int[] weakToFirst = new int[NODES];
        private final int[] headSeen = new int[NODES];
        private final int[] tailSeen = new int[NODES];
        private final int[] tailBefore = new int[NODES];
        private final int[] headBefore = new int[NODES];
        private final int[] pairs = new int[NODES];
        private final int[] queue = new int[NODES];
        private int queued;
        /** A start's own number: what an earlier start saw need not be wiped. */
        private int stamp;
        final int[] chain = new int[MOST_LINKS];
        int count;

        Chains(Shape shape, Going going) {
            this.shape = shape;
            this.going = going;
        }

        /** How many go by the nodes from the given place on (0: they are no chain, or nothing goes). */
        int mark(Board board, int[] nodes, int from, int length) {
            if (length < 2 || length > MOST_LINKS || length % 2 != 0 || from < 0 || from > nodes.length - length) {
                return 0;
            }
            for (int i = 0; i + 1 < length; i++) {
                int a = nodes[from + i];
                int b = nodes[from + i + 1];
                if (!(i % 2 == 0 ? areStrong(board, a, b) : areWeak(board, a, b))) {
                    return 0;
                }
            }
            int last = nodes[from + length - 1];
            listWeak(board, nodes[from]);
            for (int i = 0; i < weakCount; i++) {
                if (areWeak(board, weak[i], last)) {
                    going.add(board, weak[i] / 9, 1 << weak[i] % 9);
                }
            }
            return going.count;
        }

        /** How many go by the first chain, whose nodes are left in chain (0: there is none). */
        int markFirst(Board board) {
            listAllStrong(board);
            int best = MOST_PAIRS + 1;
            for (int start = 0; start < NODES && best > 1; start++) {
                if (strongCount[start] > 0) {
                    int end = reach(board, start, best - 1);
                    if (end != NONE) {
                        best = pairs[end];
                        writeChain(end);
                    }
                }
            }
            return best > MOST_PAIRS ? 0 : mark(board, chain, 0, count);
        }

        /**
         * The end of the start's first chain of at most so many pairs, or NONE. The queue holds
         * tails by pairs and then by their least rows: heads and tails are met in rising order.
         */
        private int reach(Board board, int start, int most) {
            stamp++;
            listWeak(board, start);
            for (int i = 0; i < weakCount; i++) {
                weakToFirst[weak[i]] = stamp;
            }
            queued = 0;
            headSeen[start] = stamp;
            addTails(start, 1);
            for (int i = 0; i < queued && i < NODES; i++) {
                int tail = queue[i];
                listWeak(board, tail);
                if (meetsFirst()) {
                    return tail;
                }
                if (pairs[tail] < most) {
                    addHeads(tail);
                }
            }
            return NONE;
        }

        private boolean meetsFirst() {
            for (int i = 0; i < weakCount; i++) {
                if (weakToFirst[weak[i]] == stamp) {
                    return true;
                }
            }
            return false;
        }

        private void addHeads(int tail) {
            for (int i = 0; i < weakCount; i++) {
                int head = weak[i];
                if (headSeen[head] != stamp) {
                    headSeen[head] = stamp;
                    tailBefore[head] = tail;
                    addTails(head, pairs[tail] + 1);
                }
            }
        }

        private void addTails(int head, int pairsNow) {
            for (int i = 0; i < strongCount[head]; i++) {
                int tail = strong[MOST_STRONG * head + i];
                if (tailSeen[tail] != stamp && queued < NODES) {
                    tailSeen[tail] = stamp;
                    headBefore[tail] = head;
                    pairs[tail] = pairsNow;
                    queue[queued] = tail;
                    queued++;
                }
            }
        }

        private void writeChain(int end) {
            int tail = end;
            count = 2 * pairs[end];
            for (int i = count - 2; i >= 0 && i + 1 < MOST_LINKS; i -= 2) {
                chain[i + 1] = tail;
                chain[i] = headBefore[tail];
                tail = tailBefore[chain[i]];
            }
        }

        /** The candidates that are weak to one that is there, rising. */
        private void listWeak(Board board, int node) {
            int cell = node / 9;
            int d = node % 9;
            weakCount = 0;
            for (int i = 0; i < Shape.NEAR; i++) {
                int other = shape.near[Shape.NEAR * cell + i];
                int bits = other == cell ? board.cells[cell] & ~(1 << d) : board.cells[other] & 1 << d;
                for (int e = 0; e < 9 && bits >> e != 0; e++) {
                    if ((bits >> e & 1) != 0 && weakCount < MOST_WEAK) {
                        weak[weakCount] = 9 * other + e;
                        weakCount++;
                    }
                }
            }
        }

        private void listAllStrong(Board board) {
            Arrays.fill(strongCount, 0);
            for (int cell = 0; cell < CELLS; cell++) {
                int bits = board.cells[cell];
                if (Integer.bitCount(bits) == 2) {
                    int low = bits & -bits;
                    addStrongPair(9 * cell + placeOf(low), 9 * cell + placeOf(bits ^ low));
                }
            }
            for (int house = 0; house < HOUSES; house++) {
                for (int d = 0; d < 9; d++) {
                    int positions = board.places[9 * house + d];
                    if (Integer.bitCount(positions) == 2) {
                        int low = positions & -positions;
                        int a = shape.member[9 * house + placeOf(low)];
                        int b = shape.member[9 * house + placeOf(positions ^ low)];
                        addStrongPair(9 * a + d, 9 * b + d);
                    }
                }
            }
        }

        private void addStrongPair(int a, int b) {
            addStrong(a, b);
            addStrong(b, a);
        }

        /** Keeps a node's row rising and each node in it once: two houses may tell the same pair. */
        private void addStrong(int node, int other) {
            int base = MOST_STRONG * node;
            int length = strongCount[node];
            for (int i = 0; i < length; i++) {
                if (strong[base + i] == other) {
                    return;
                }
            }
            if (length >= MOST_STRONG) {
                return;
            }
            int i = length;
            for (; i > 0 && strong[base + i - 1] > other; i--) {
                strong[base + i] = strong[base + i - 1];
            }
            strong[base + i] = other;
            strongCount[node] = length + 1;
        }

        private boolean areWeak(Board board, int a, int b) {
            if (a == b || !board.has(a) || !board.has(b)) {
                return false;
            }
            return a / 9 == b / 9 || a % 9 == b % 9 && shape.shareHouse(a / 9, b / 9);
        }

        private boolean areStrong(Board board, int a, int b) {
            if (!areWeak(board, a, b)) {
                return false;
            }
            int cell = a / 9;
            int other = b / 9;
            if (cell == other) {
                return Integer.bitCount(board.cells[cell]) == 2;
            }
            for (int kind = 0; kind < 3; kind++) {
                int house = shape.houseOf[3 * cell + kind];
                boolean shared = house == shape.houseOf[3 * other + kind];
                if (shared && Integer.bitCount(board.places[9 * house + a % 9]) == 2) {
                    return true;
                }
            }
            return false;
        }
    }

    /** The steps as they were done; each takes a candidate, so there are at most as many as nodes. */
    private static final class Trace {
        private static final int[] WEIGHTS = {1, 2, 4, 5, 6, 8, 9, 12, 14, 16, 20, 18, 24, 30};

        final int[] rule = new int[NODES];
        final int[] p = new int[NODES];
        final int[] q = new int[NODES];
        /** Where the board's log has the step's candidates. */
        final int[] goneFrom = new int[NODES];
        final int[] went = new int[NODES];
        final int[] linkFrom = new int[NODES];
        final int[] linkCount = new int[NODES];
        final int[] links = new int[NODES * MOST_LINKS];
        private int linked;
        int size;
        int score;
        int level;

        void forget() {
            size = 0;
            score = 0;
            level = NONE;
            linked = 0;
        }

        boolean has(int i) {
            return i >= 0 && i < size;
        }

        int linkAt(int i) {
            return i >= 0 && i < linked ? links[i] : NONE;
        }

        void write(int ruleNow, int pNow, int qNow, int goneFromNow, int goes) {
            if (size >= NODES || ruleNow < 0 || ruleNow > CHAIN) {
                return;
            }
            rule[size] = ruleNow;
            p[size] = pNow;
            q[size] = qNow;
            goneFrom[size] = goneFromNow;
            went[size] = goes;
            linkFrom[size] = linked;
            linkCount[size] = 0;
            size++;
            score += WEIGHTS[ruleNow];
            level = Math.max(level, ruleNow);
        }

        /** The chain of the step that was written last. */
        void writeLinks(int[] nodes, int count) {
            if (size < 1 || count > nodes.length || count > links.length - linked) {
                return;
            }
            for (int i = 0; i < count; i++) {
                links[linked + i] = nodes[i];
            }
            linkCount[size - 1] = count;
            linked += count;
        }
    }

    /** The search, kept as a stack of cells with digits left to try, so that it can go on later. */
    private static final class Solver {
        /** In one closing a cell, and a digit in a house, come down to one at most once. */
        private static final int MOST_EVENTS = CELLS + HOUSES * 9;

        private final Shape shape;
        private final Board board;
        private final int[] events = new int[MOST_EVENTS];
        private int eventCount;
        private boolean dead;
        private final int[] tryCell = new int[CELLS];
        private final int[] tryLeft = new int[CELLS];
        private final int[] tryMark = new int[CELLS];
        private int depth;
        private boolean begun;
        boolean ended;
        int tries;
        int found;
        final int[] answers = new int[ENOUGH_SOLUTIONS * CELLS];

        Solver(Shape shape) {
            this.shape = shape;
            board = new Board(shape);
        }

        void forget() {
            begun = false;
            ended = false;
            tries = 0;
            found = 0;
            depth = 0;
        }

        void begin(int[] given) {
            if (begun) {
                return;
            }
            begun = true;
            board.start(given);
            dead = false;
            eventCount = 0;
            for (int cell = 0; cell < CELLS; cell++) {
                noteCount(board.cells[cell], cell);
            }
            for (int i = 0; i < HOUSES * 9; i++) {
                noteCount(board.places[i], CELLS + i);
            }
            close();
            settle();
        }

        void tryNext() {
            if (ended || depth < 1) {
                return;
            }
            int top = depth - 1;
            board.undo(tryMark[top]);
            int bit = tryLeft[top] & -tryLeft[top];
            tryLeft[top] ^= bit;
            tries++;
            dead = false;
            eventCount = 0;
            keepAlone(tryCell[top], bit);
            close();
            settle();
        }

        /** What has died stays so, whatever else goes: a closing need not be brought to its end. */
        private void close() {
            for (int i = 0; i < eventCount && i < MOST_EVENTS && !dead; i++) {
                if (events[i] < CELLS) {
                    closeCell(events[i]);
                } else {
                    closePlace(events[i] - CELLS);
                }
            }
        }

        private void closeCell(int cell) {
            int bit = board.cells[cell];
            if (!isOneBit(bit)) {
                return;
            }
            int d = placeOf(bit);
            for (int i = 0; i < Shape.NEAR && !dead; i++) {
                int other = shape.near[Shape.NEAR * cell + i];
                if (other != cell && (board.cells[other] & bit) != 0) {
                    remove(other, d);
                }
            }
        }

        private void closePlace(int place) {
            int positions = board.places[place];
            if (isOneBit(positions)) {
                int house = place / 9;
                keepAlone(shape.member[9 * house + placeOf(positions)], 1 << place % 9);
            }
        }

        private void keepAlone(int cell, int bit) {
            for (int d = 0; d < 9 && !dead; d++) {
                if ((board.cells[cell] & ~bit & 1 << d) != 0) {
                    remove(cell, d);
                }
            }
        }

        private void remove(int cell, int d) {
            board.drop(9 * cell + d);
            noteCount(board.cells[cell], cell);
            for (int kind = 0; kind < 3; kind++) {
                int place = 9 * shape.houseOf[3 * cell + kind] + d;
                noteCount(board.places[place], CELLS + place);
            }
        }

        private void noteCount(int bits, int event) {
            if (bits == 0) {
                dead = true;
            } else if (isOneBit(bits) && eventCount < MOST_EVENTS) {
                events[eventCount] = event;
                eventCount++;
            }
        }

        private void settle() {
            if (!dead) {
                int cell = fewest();
                if (cell == NONE) {
                    keepAnswer();
                } else if (depth < CELLS) {
                    tryCell[depth] = cell;
                    tryLeft[depth] = board.cells[cell];
                    tryMark[depth] = board.logged;
                    depth++;
                }
            }
            for (int i = depth - 1; i >= 0 && tryLeft[i] == 0; i--) {
                depth = i;
            }
            ended = depth == 0 || found >= ENOUGH_SOLUTIONS;
        }

        private int fewest() {
            int best = NONE;
            int least = 10;
            for (int cell = 0; cell < CELLS; cell++) {
                int size = Integer.bitCount(board.cells[cell]);
                if (size > 1 && size < least) {
                    least = size;
                    best = cell;
                }
            }
            return best;
        }

        private void keepAnswer() {
            if (found >= ENOUGH_SOLUTIONS) {
                return;
            }
            for (int cell = 0; cell < CELLS; cell++) {
                answers[CELLS * found + cell] = placeOf(board.cells[cell]) + 1;
            }
            found++;
        }
    }
}
