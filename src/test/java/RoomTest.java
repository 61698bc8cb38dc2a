import java.lang.management.ManagementFactory;

/** The room of one run: all that 512 calls make must stay far below 7.3 million fields and elements. */
public final class RoomTest {
    private static final long MOST_ELEMENTS = 7_300_000;

    private static final Check check = new Check();

    public static void main(String[] args) {
        com.sun.management.ThreadMXBean threads =
                (com.sun.management.ThreadMXBean) ManagementFactory.getThreadMXBean();
        run(2);
        for (int n = 2; n <= 8; n++) {
            long before = threads.getCurrentThreadAllocatedBytes();
            run(n);
            long made = threads.getCurrentThreadAllocatedBytes() - before;
            System.out.println("  " + n + " nodes: an object and 512 calls made " + made + " octets");
            // An element has 4 octets or more, but for the few that are boolean.
            check.isTrue(n + " nodes: " + made + " octets", made < 4 * MOST_ELEMENTS);
        }
        check.finish();
    }

    /** A sync and the dearest question after it, until there are 240 events, and then questions. */
    private static void run(int n) {
        HashgraphDesk desk = new HashgraphDesk();
        desk.begin(n);
        for (int call = 2; call <= Desk.MOST_CALLS; call++) {
            int step = call / 2;
            if (call % 2 == 0 && step <= 240 - n) {
                desk.sync(step % n, (step + 1) % n, step);
            } else {
                desk.balance(step % n, 0);
            }
        }
    }
}
