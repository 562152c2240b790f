import com.sun.management.ThreadMXBean;
import java.lang.management.ManagementFactory;

/** What 512 calls make stays small: messages that came are used again. */
public final class RoomTest {
    // 7.3 million fields and elements are 29 million bytes; this leaves most of the room to other objects.
    private static final long MOST_BYTES = 1_000_000;

    public static void main(String[] args) {
        Runs runs = new Runs("RoomTest");
        runs.due("busy sites take little room", busySites() < MOST_BYTES ? 1 : 0, 1);
        runs.due("sites that crash and come up take little room", crashes() < MOST_BYTES ? 1 : 0, 1);
        runs.due("many objects take little room", manyObjects() < 2 * MOST_BYTES ? 1 : 0, 1);
        runs.end();
    }

    private static long made() {
        ThreadMXBean bean = (ThreadMXBean) ManagementFactory.getThreadMXBean();
        return bean.getThreadAllocatedBytes(Thread.currentThread().getId());
    }

    private static CommitSites eightSites() {
        CommitSites x = new CommitSites();
        for (int i = 0; i < 8; i++) {
            x.site(1);
        }
        x.patience(5);
        x.quorums(8, 8);
        return x;
    }

    private static long busySites() {
        made();
        long before = made();
        CommitSites x = eightSites();
        for (int k = 0; k < 45; k++) {
            x.part(255, 1);
            x.begin(0, 255);
            x.run(1);
            x.part(1, 1 + k % 20);
            for (int r = 0; r < 7; r++) {
                x.run(500);
            }
            x.reset();
        }
        return made() - before;
    }

    private static long crashes() {
        made();
        long before = made();
        CommitSites x = eightSites();
        x.begin(0, 255);
        x.run(1);
        x.part(255, 20);
        for (int k = 0; k < 240; k++) {
            x.crash(k % 8);
            x.recover(k % 8);
        }
        x.run(500);
        return made() - before;
    }

    private static long manyObjects() {
        made();
        long before = made();
        for (int k = 0; k < 512; k++) {
            new CommitSites().run(1);
        }
        return made() - before;
    }
}
