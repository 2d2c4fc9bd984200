import com.sun.management.ThreadMXBean;
import java.lang.management.ManagementFactory;

/** "All memory is made at first": the calls of a run that is not refused make nothing. */
public final class MemoryTest {
    private static final int TRIES = 50;
    // Some 600 small objects and 10,000 bytes take a quarter of this.
    private static final long MOST_BYTES = 200_000;

    private static final ThreadMXBean MEMORY =
            (ThreadMXBean) ManagementFactory.getThreadMXBean();

    public static void main(String[] args) {
        long leastMade = Long.MAX_VALUE;
        long leastByCalls = Long.MAX_VALUE;
        for (int i = 0; i < TRIES; i++) {
            long atFirst = bytesMade();
            WireBench bench = new WireBench();
            long made = bytesMade();
            calls(bench);
            long behindCalls = bytesMade();
            leastMade = Math.min(leastMade, made - atFirst);
            leastByCalls = Math.min(leastByCalls, behindCalls - made);
        }
        Checks.sentence("All memory is made at first");
        boolean small = leastMade > 0 && leastMade < MOST_BYTES;
        Checks.same("a new object is not large", "true", String.valueOf(small));
        Checks.same("bytes made by a run's calls", "0", String.valueOf(leastByCalls));
        Checks.end();
    }

    private static long bytesMade() {
        return MEMORY.getThreadAllocatedBytes(Thread.currentThread().getId());
    }

    /** Calls of one run that come to every limit of what is held: nets, fates, bytes, arrivals. */
    private static void calls(WireBench bench) {
        for (int i = 0; i < 24; i++) {
            bench.net(100, 1);
        }
        for (int i = 0; i < 185; i++) {
            bench.feed(i, 8);
        }
        bench.fates(0, 0xAAAAAAAAAAAAAAAAL, 32);
        bench.fates(0, 0xAAAAAAAAAAAAAAAAL, 32);
        bench.put(0, 0, 1, 1);
        for (int i = 0; i < 240; i++) {
            if (i % 32 == 0) {
                bench.fates(1, 0xAAAAAAAAAAAAAAAAL, 32);
            }
            bench.put(1, 0, 1, i);
        }
        bench.pass(2);
        for (int i = 0; i < 19; i++) {
            bench.next();
            bench.arrival(6);
        }
        bench.byteAt(0);
        bench.underWay();
        bench.fated(1);
        bench.puts(1);
        bench.link(1, false);
        bench.link(1, true);
    }
}
