import com.sun.management.ThreadMXBean;
import java.lang.management.ManagementFactory;

/** A run's objects and elements have one small room: calls make none, and the constructor few. */
public final class RoomTest {
    private static final Check CHECK = new Check();
    private static final long MOST_OF_CONSTRUCTOR = 250_000;
    private static final long MOST_OF_CALLS = 2_000;

    public static void main(String[] args) {
        if (!(ManagementFactory.getThreadMXBean() instanceof ThreadMXBean)) {
            System.out.println("this machine doesn't count what is made");
            return;
        }
        ThreadMXBean bean = (ThreadMXBean) ManagementFactory.getThreadMXBean();
        Grids.graded(Puzzles.KNOWN[4]).search(300);
        bean.getCurrentThreadAllocatedBytes();
        for (String known : Puzzles.KNOWN) {
            int[] cells = Puzzles.of(known);
            long before = bean.getCurrentThreadAllocatedBytes();
            SudokuGrader x = new SudokuGrader();
            long made = bean.getCurrentThreadAllocatedBytes();
            use(x, cells);
            long used = bean.getCurrentThreadAllocatedBytes();
            CHECK.due("bytes of a new object: " + (made - before), made - before <= MOST_OF_CONSTRUCTOR, true);
            CHECK.due("bytes of its calls: " + (used - made), used - made <= MOST_OF_CALLS, true);
        }
        CHECK.end();
    }

    private static void use(SudokuGrader x, int[] cells) {
        for (int round = 0; round < 3; round++) {
            for (int cell = 0; cell < 81; cell++) {
                x.give(cell, cells[cell]);
            }
            for (int i = 0; i < 20; i++) {
                x.grade(30);
                x.search(300);
                x.node(i);
                x.claim(i % 14, i, i);
            }
            x.replay(0);
        }
    }
}
