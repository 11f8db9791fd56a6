import java.util.ArrayList;
import java.util.Collections;
import java.util.List;
import java.util.Random;

/** Puzzles for tests: some known ones, and others made from a seed. */
final class Puzzles {
    static final String[] KNOWN = {
        "530070000600195000098000060800060003400803001700020006060000280000419005000080079",
        "100007090030020008009600500005300900010080002600004000300000010040000007007000300",
        "000000039000001005003050800008090006070002000100400000009080050020000600400700000",
        "100000002090400050006000700050903000000070000000850040700000600030009080002000001",
        "005300000800000020070010500400005300010070006003200080060500009004000030000009700",
        "000000010400000000020000000000050407008000300001090000300400200050100000000806000",
    };

    /** Between them, their traces have every rule, and chains of up to eleven pairs. */
    static final String[] RARE = {
        "003000000000010000082030150000060000090000000000048903060050802050100300710000005",
        "000030000001609050050802000020000500006004000008100049000403200200000030005060100",
        "080900300000001070700400007000000060805000703009700508006070000020000015300506000",
        "400700020003000000000203684000010052030800000905000300007000000500608009300007006",
        "305089000470002010000000000002095003053000600700800020000000854000000060090004000",
        "030600010006800290000090000070200006000004120300080000000000400050102000600030000",
        "003010090070500000090080021000090000007000360080000000000400005410000080036000400",
        "030000401508010360000000059000037000000160004709050010001570090005000000000046000",
        "010600002000009000400020350003100470000530008850000000006000001000800507570000900",
    };

    /** Its trace has a chain of twelve pairs, the most that there may be. */
    static final String TWELVE_PAIRS =
        "006090000020000090304050007000007204000001000008000000070200003900000060000103800";

    /** When no more steps are left, a chain of thirteen pairs would do. */
    static final String THIRTEEN_PAIRS =
        "200000700000030086406000000700800500050697300000000000000000640001060009085010000";

    /** Their steps hang on the first and the last ones of all: houses, cells, positions, and links of a node. */
    static final String[] ENDS = {
        "000000100950080070600070280005000010000805000000003840002000000040300000500407000",
        "000002087071000020083000500050700210000000060160500000020007400400009100007080030",
        "000070684000408003900020000000000057060800300002040060100005240000000000008204005",
        "006008020800207010900000000000000098000405300013000700300800000200100900004050000",
        "054072000000003000160000080000007019490000003000080400000600050200031000040020700",
    };

    /** No solution, and more tries than an object has calls for. */
    static final String ENDLESS =
        "000005080000601043000000000010500000000106000300000005530000061000000004000000000";

    private final Random random;

    Puzzles(long seed) {
        random = new Random(seed);
    }

    static int[] of(String text) {
        int[] cells = new int[81];
        for (int c = 0; c < 81; c++) {
            cells[c] = text.charAt(c) - '0';
        }
        return cells;
    }

    /** A puzzle with one solution, of which no given digit can be spared. */
    int[] minimal() {
        int[] cells = new int[81];
        fill(cells, 1);
        List<Integer> order = new ArrayList<>();
        for (int c = 0; c < 81; c++) {
            order.add(c);
        }
        Collections.shuffle(order, random);
        for (int c : order) {
            int digit = cells[c];
            cells[c] = 0;
            if (fill(cells.clone(), 2) > 1) {
                cells[c] = digit;
            }
        }
        return cells;
    }

    /** A minimal puzzle with some given digits taken away: mostly several solutions. */
    int[] loose(int without) {
        int[] cells = minimal();
        for (int i = 0; i < without; ) {
            int c = random.nextInt(81);
            if (cells[c] != 0) {
                cells[c] = 0;
                i++;
            }
        }
        return cells;
    }

    /** A minimal puzzle with other digits in some cells: mostly no solution. */
    int[] broken(int changes) {
        int[] cells = minimal();
        for (int i = 0; i < changes; i++) {
            cells[random.nextInt(81)] = 1 + random.nextInt(9);
        }
        return cells;
    }

    int[] scattered(int count) {
        int[] cells = new int[81];
        for (int i = 0; i < count; i++) {
            cells[random.nextInt(81)] = 1 + random.nextInt(9);
        }
        return cells;
    }

    /** How many solutions there are, up to most; the cells are left filled if that many are found. */
    int fill(int[] cells, int most) {
        int best = -1;
        int bestMay = 0;
        int fewest = 10;
        for (int c = 0; c < 81; c++) {
            if (cells[c] == 0) {
                int may = may(cells, c);
                if (Integer.bitCount(may) < fewest) {
                    best = c;
                    bestMay = may;
                    fewest = Integer.bitCount(may);
                }
            }
        }
        if (best < 0) {
            return 1;
        }
        List<Integer> digits = new ArrayList<>();
        for (int d = 1; d <= 9; d++) {
            if ((bestMay >> d & 1) != 0) {
                digits.add(d);
            }
        }
        Collections.shuffle(digits, random);
        int found = 0;
        for (int d : digits) {
            cells[best] = d;
            found += fill(cells, most - found);
            if (found >= most) {
                return found;
            }
        }
        cells[best] = 0;
        return found;
    }

    private static int may(int[] cells, int cell) {
        int used = 0;
        for (int c = 0; c < 81; c++) {
            if (Plain.peers(c, cell)) {
                used |= 1 << cells[c];
            }
        }
        return 1022 & ~used;
    }
}
