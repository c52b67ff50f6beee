import java.lang.management.ManagementFactory;

/** All calls of a run live in one room: behind its constructor an object makes no other, whatever is called. */
public final class RoomTest {
    private static final String FULLEST = "WP0P1P2P0H4H2H7H0H3H9G3010G6100G2331G4033G1202G9122G5013";
    /** What the machine itself may make on the side; a single object in each call would be far more. */
    private static final long SLACK = 4096;

    private RoomTest() {
    }

    private static int dearestCalls(WinnowedGuilt x) {
        int sum = 0;
        for (int i = 0; i < 25; i++) {
            sum += x.best(4, true) + x.fewest(i % 4) + x.votes(i % 4) + x.chosen() + x.judge(4, 1020304);
            sum += x.share(i % 4, true) + x.rests(0, 1, 0) + x.gust(i % 7, 5, 3, true) + x.years(30);
            sum += x.see(i % 4, 3, 1) + x.weights(i % 4) + x.unsee() + x.when(i % 7);
            sum += x.toss(i % 4) + x.calm() + x.fan(i % 4) + x.pick(2) + x.undo() + x.keep(i % 2) + x.again(i % 2);
        }
        return sum + x.fault() + x.floor();
    }

    private static long made(WinnowedGuilt x, com.sun.management.ThreadMXBean threads) {
        long id = Thread.currentThread().getId();
        long ahead = threads.getThreadAllocatedBytes(id);
        int sum = dearestCalls(x);
        long bytes = threads.getThreadAllocatedBytes(id) - ahead;
        return sum == Integer.MIN_VALUE ? -1 : bytes;
    }

    public static void main(String[] args) {
        if (ManagementFactory.getThreadMXBean() instanceof com.sun.management.ThreadMXBean threads
                && threads.isThreadAllocatedMemorySupported()) {
            made(Due.floor(FULLEST), threads);
            WinnowedGuilt x = Due.floor(FULLEST);
            long bytes = made(x, threads);
            Due.holds("500 calls made " + bytes + " bytes of objects", bytes <= SLACK);
        }
        Due.end();
    }
}
