import java.lang.management.ManagementFactory;

/** What a run makes: an object takes little room, and its calls take none. */
public final class RoomTest {
    private static final com.sun.management.ThreadMXBean BEAN =
            (com.sun.management.ThreadMXBean) ManagementFactory.getThreadMXBean();

    public static void main(String[] args) {
        long sum = 0;
        long made = 0;
        long called = 0;
        // The first rounds load classes; the last one counts.
        for (int round = 0; round < 5; round++) {
            long start = BEAN.getThreadAllocatedBytes(Thread.currentThread().getId());
            MarshCourt m = new MarshCourt();
            long built = BEAN.getThreadAllocatedBytes(Thread.currentThread().getId());
            sum += run(m);
            long end = BEAN.getThreadAllocatedBytes(Thread.currentThread().getId());
            made = built - start;
            called = end - built;
        }
        Run.holds("room", "an object takes 24000 bytes at most, not " + made, made <= 24000);
        Run.holds("room", "512 calls take 4000 bytes at most, not " + called, called <= 4000);
        Run.holds("room", "the calls were made: " + sum, sum != 0);
        Run.finish();
    }

    private static long run(MarshCourt m) {
        long sum = 0;
        for (int i = 0; i < 24; i++) {
            sum += m.rod(i, i % 3, 30) + m.sluice(i, i % 4) + m.herd(i);
        }
        sum += m.feed(0x722030L, 3) + m.feed(0x2d32332061637265L, 8) + m.feed(0x733b682039393b66L, 8) + m.feed(0x203939L, 3) + m.court(0);
        for (int i = 0; i < 28; i++) {
            sum += m.tide(60, 2, 9) + m.sell(i, 0, 3, 5, i) + m.held(-1, 0, 99, i) + m.mender(0, i, 1, i) + m.view(i % 24);
            sum += m.works(200, 1) + m.scot(99, 1) + m.way(0, 60, 0) + m.gate(i, i + 1, 0) + m.fines(3) + m.count(i % 11);
            sum += m.about(0, i % 8) + m.custom(i, 1, 1) + m.fault(0, 3) + m.feed(i, 8) + m.court(3);
        }
        return sum;
    }
}
