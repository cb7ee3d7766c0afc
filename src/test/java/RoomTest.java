import com.sun.management.ThreadMXBean;
import java.lang.management.ManagementFactory;

/**
 * All that one run makes: an object has 16 bytes at least and an element one, so a run that makes
 * less than 7.3 million bytes keeps below 600,000 objects and 7.3 million elements, too.
 */
public final class RoomTest {
    private static final Checks CHECKS = new Checks();
    private static final long MOST = 7_300_000;
    private static final int CALLS = 512;

    public static void main(String[] args) {
        for (int fill = 0; fill <= 500; fill += 50) {
            for (int kind = 0; kind < 6; kind++) {
                long before = made();
                run(fill, kind);
                long all = made() - before;
                CHECKS.holds("fill " + fill + ", kind " + kind + " made " + all, all < MOST);
            }
        }
        FullDisk.keys();
        long before = made();
        FullDisk.made();
        long all = made() - before;
        CHECKS.holds("a full disk made " + all, all < MOST);
        CHECKS.end();
    }

    private static long made() {
        ThreadMXBean beans = (ThreadMXBean) ManagementFactory.getThreadMXBean();
        return beans.getThreadAllocatedBytes(Thread.currentThread().getId());
    }

    private static void run(int fill, int kind) {
        LetterTree x = new LetterTree();
        for (int i = 0; i < fill; i++) {
            x.put(i * 37 % 1009);
        }
        x.sync();
        for (int calls = fill + 1; calls + 4 <= CALLS; calls += 4) {
            four(x, kind, calls);
        }
    }

    private static void four(LetterTree x, int kind, int i) {
        for (int turn = 0; turn < (kind == 0 ? 4 : 1); turn++) {
            x.sweep(Long.MIN_VALUE, Long.MAX_VALUE - i);
        }
        switch (kind) {
            case 1:
                x.settle();
                x.sync();
                x.free();
                break;
            case 2:
                x.settle();
                x.picture();
                x.release(x.pictured(0));
                break;
            case 3:
                x.sync();
                x.crash();
                x.rise();
                break;
            case 4:
                x.append(i * 37 % 1009);
                x.settle();
                x.sync();
                break;
            case 5:
                x.page(x.pages() - 1, 1);
                x.look(1, 5);
                break;
            default:
        }
    }
}
