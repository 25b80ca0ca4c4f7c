import java.lang.management.ManagementFactory;

/** All calls of a run live in one room: a call makes no objects, and an object is small. */
final class RoomTest {
    private static final int CALLS = 512;
    // The meter itself may take a little.
    private static final long SLACK = 4096;
    private static final long MOST_OF_ONE = 20000;

    public static void main(String[] args) {
        Check check = new Check("RoomTest");
        if (ManagementFactory.getThreadMXBean() instanceof com.sun.management.ThreadMXBean meter) {
            PackDrawer x = new PackDrawer();
            allCalls(x);
            taken(meter);
            long before = taken(meter);
            allCalls(x);
            long calls = taken(meter) - before;
            check.holds("calls took " + calls + " bytes", calls <= SLACK);
            before = taken(meter);
            check.due("a new one", new PackDrawer().length(), 0);
            long one = taken(meter) - before;
            check.holds("a new one took " + one + " bytes", one <= MOST_OF_ONE + SLACK);
        }
        check.end();
    }

    private static long taken(com.sun.management.ThreadMXBean meter) {
        return meter.getThreadAllocatedBytes(Thread.currentThread().getId());
    }

    private static void allCalls(PackDrawer x) {
        for (int i = 0; i < CALLS; i++) {
            x.cut(x.length() / 2);
            x.draw(i, i % 3, 1 + i % 5);
            x.plant(i % 8);
            x.put(i % 256);
            x.poke(i % 5, 128);
            x.open(400, 800, 1500);
            x.plain(400, 800, 1500);
            x.told(i % 8);
            x.given(i);
            x.at(i);
            x.shorter(400, 800, 1500);
            x.bomb(i % 13, 2 + i % 64, i % 256);
            x.open(i % 400, 800, 1500);
            x.plain(400, i % 800, 1500);
        }
    }
}
