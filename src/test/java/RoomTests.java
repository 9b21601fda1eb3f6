import java.lang.management.ManagementFactory;

/** What a run makes stays far below the room of all calls: 600,000 objects, 7.3 million fields and elements. */
final class RoomTests {
    private static final int CALLS = 512;
    private static final long MOST_OF_OBJECT = 1_000_000;
    private static final long MOST_OF_CALLS = 7_300_000;

    public static void main(String[] args) {
        Expect is = new Expect();
        com.sun.management.ThreadMXBean bean = (com.sun.management.ThreadMXBean) ManagementFactory.getThreadMXBean();
        if (!bean.isThreadAllocatedMemorySupported()) {
            System.out.println("this machine does not count what is made");
            return;
        }
        busyRun(new MarketTown());
        long start = bean.getCurrentThreadAllocatedBytes();
        MarketTown town = new MarketTown();
        long made = bean.getCurrentThreadAllocatedBytes();
        int last = busyRun(town);
        long end = bean.getCurrentThreadAllocatedBytes();
        is.holds("an object has " + (made - start) + " bytes", made - start < MOST_OF_OBJECT);
        is.holds("its calls make " + (end - made) + " bytes", end - made < MOST_OF_CALLS);
        is.holds("the run went on", last > 0);
        is.end();
    }

    /** Twelve agents with six rules each, and as many long lives as calls are left for. */
    private static int busyRun(MarketTown town) {
        int calls = 0;
        int[] market = {0x62696420, 0x31203920, 0x39202020, 0x20202020, 0x20202020};
        for (int agent = 0; agent < 12; agent++) {
            town.agent(agent % 6, 100000);
            town.give(agent, 1, 999);
            calls += 2;
            for (int rule = 0; rule < 6; rule++) {
                market[0] = rule % 2 == 0 ? 0x62696420 : 0x61736b20;
                town.feed(market[0], market[1], market[2], market[3], market[4]);
                town.rule(agent);
                calls += 2;
            }
        }
        town.save(0);
        int last = 0;
        while (calls < CALLS - 2) {
            last = town.live(30);
            town.differs(0);
            town.load(0);
            calls += 3;
        }
        return last;
    }
}
