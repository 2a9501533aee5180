import com.sun.management.ThreadMXBean;
import java.lang.management.ManagementFactory;

/** The room of a run: what an object needs is made when it is made, and its calls make next to nothing. */
public final class RoomTest {
    private static final long MOST_FOR_OBJECT = 40_000, MOST_FOR_CALLS = 40_000;

    private static final ThreadMXBean BEAN = (ThreadMXBean) ManagementFactory.getThreadMXBean();

    public static void main(String[] args) {
        run();
        long before = bytes();
        RunningHeads empty = new RunningHeads();
        long made = bytes() - before;
        Check.due("its entries", empty.count(3), 0);
        Check.holds("an object takes at most " + MOST_FOR_OBJECT + " bytes (" + made + ")", made <= MOST_FOR_OBJECT);
        RunningHeads x = Check.full();
        before = bytes();
        calls(x);
        long more = bytes() - before;
        Check.holds("its calls take at most " + MOST_FOR_CALLS + " bytes (" + more + ")", more <= MOST_FOR_CALLS);
        Check.end();
    }

    private static long bytes() {
        return BEAN.getThreadAllocatedBytes(Thread.currentThread().getId());
    }

    /** What is loaded at first use is not to be counted. */
    private static void run() {
        calls(Check.full());
        bytes();
    }

    private static void calls(RunningHeads x) {
        for (int turn = 0; turn < 20; turn++) {
            x.bestLines(0);
            x.leastLines(1);
            x.ifSet(0, 6 + turn);
            x.set(2, 1 + turn % 3);
            x.change(turn, 40 - turn);
            x.put('a' + turn);
            x.lookFor();
            x.find();
            x.rename(turn);
            x.put(('a' + turn) << 16 | ':' << 8 | '9');
            x.fault();
            x.read();
            x.wipe();
            x.join(turn);
            x.save(turn % 2);
            x.drop(turn);
            x.undo();
            x.restore(turn % 2);
            x.page(turn, 7);
            x.entry(turn, 6);
            x.fold(turn, true);
            x.count(7);
        }
    }
}
