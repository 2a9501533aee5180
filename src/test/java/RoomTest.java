import com.sun.management.ThreadMXBean;
import java.lang.management.ManagementFactory;

/**
 * The room of a run: an object and 512 calls of the dearest kind. As an object takes 16 bytes at least, and
 * a field or an element one, so many bytes hold neither 600,000 objects nor more than 7.3 million elements.
 */
public final class RoomTest {
    private static final long MOST_BYTES = 7_300_000;
    private static final int KINDS = 21, TURNS = 100;

    private static final ThreadMXBean BEAN = (ThreadMXBean) ManagementFactory.getThreadMXBean();

    public static void main(String[] args) {
        measure(0);
        for (int kind = 0; kind < KINDS; kind++) {
            // What is loaded at first use is not to be counted.
            measure(kind);
            long bytes = measure(kind);
            Check.holds("an object and 512 calls of kind " + kind + " take at most " + MOST_BYTES + " bytes (" + bytes + ")",
                bytes <= MOST_BYTES);
        }
        Check.end();
    }

    private static long bytes() {
        return BEAN.getThreadAllocatedBytes(Thread.currentThread().getId());
    }

    private static long measure(int kind) {
        long before = bytes();
        Heads empty = new Heads();
        long object = bytes() - before;
        Check.due("entries of the empty one", empty.count(3), 0);
        Heads x = Check.full();
        before = bytes();
        for (int turn = 0; turn < TURNS; turn++) {
            call(x, kind, turn);
        }
        return object + (bytes() - before) * Heads.MOST_CALLS / TURNS;
    }

    private static void call(Heads x, int kind, int turn) {
        switch (kind) {
            case 0 -> x.set(2, 1 + turn % 3);
            case 1 -> {
                Check.pad(x, "entryaa:1");
                x.read();
            }
            case 2 -> x.change(turn % 30, 1 + turn % 40);
            case 3 -> x.drop(0);
            case 4 -> x.join(0);
            case 5 -> {
                x.put('a' + turn % 26);
                x.rename(turn % 30);
            }
            case 6 -> x.entry(turn % 30, 6 + turn % 7);
            case 7 -> x.page(turn, 7 + turn % 5);
            case 8 -> x.fold(turn, turn % 2 == 0);
            case 9 -> x.count(turn % 15);
            case 10 -> {
                Check.pad(x, "entry");
                x.lookFor();
            }
            case 11 -> {
                Check.pad(x, "entry");
                x.find();
            }
            case 12 -> x.ifSet(0, 6 + turn % 35);
            case 13 -> x.leastLines(1);
            case 14 -> x.bestLines(0);
            case 15 -> x.put('a');
            case 16 -> x.wipe();
            case 17 -> x.fault();
            case 18 -> x.undo();
            case 19 -> x.save(turn % 2);
            default -> x.restore(turn % 2);
        }
    }
}
