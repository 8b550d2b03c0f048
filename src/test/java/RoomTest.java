import java.lang.management.ManagementFactory;

/** What the dearest runs make: a desk uses its rows again, so that many calls cost no more room than few. */
public final class RoomTest {
    private static final Check c = new Check();
    // 7.3 million fields and elements are allowed: this is below that, even if each were one byte.
    private static final long MOST_BYTES = 1 << 20;

    public static void main(String[] args) {
        dearestRun();
        c.dueThat("a new desk is small", bytesOf(RoomTest::newDesk) < 1 << 14);
        c.dueThat("switches and images", bytesOf(RoomTest::dearestRun) < MOST_BYTES);
        c.dueThat("crowds", bytesOf(RoomTest::crowds) < MOST_BYTES);
        c.end();
    }

    private static long bytesOf(Runnable run) {
        var threads = (com.sun.management.ThreadMXBean) ManagementFactory.getThreadMXBean();
        long id = Thread.currentThread().getId();
        long before = threads.getThreadAllocatedBytes(id);
        run.run();
        return threads.getThreadAllocatedBytes(id) - before;
    }

    private static void newDesk() {
        c.due("new", new LadderDesk().holds(0), Check.NONE);
    }

    private static void dearestRun() {
        LadderDesk d = new LadderDesk();
        for (int i = 0; i < 127; i++) {
            d.make(i % 16, i % 5, 1, 0);
            d.image();
            d.count(i % 16, i % 4, 239, 1, 0);
            d.restore();
        }
        c.due("all are there", d.image(), 16);
    }

    private static void crowds() {
        LadderDesk d = new LadderDesk();
        for (int p = 0; p < 16; p++) {
            d.make(p, Check.STOP, 1, 0);
            d.hang(p, p - 1, 0);
            d.stop(p, 1, true);
        }
        for (int i = 0; i < 150; i++) {
            d.among(15, 0, 0, 2000);
            d.moves(15, i, 0, 2000);
            d.both(15, 14, 0, 2000);
        }
    }
}
