import java.lang.management.ManagementFactory;

/** The room of one run: after the object is made no call makes anything but the exceptions that it throws. */
public final class RoomTest {
    private static final int CALLS = 512;
    private static final long MOST_OCTETS_PER_CALL = 200;

    private static final Check check = new Check();

    public static void main(String[] args) {
        com.sun.management.ThreadMXBean threads =
                (com.sun.management.ThreadMXBean) ManagementFactory.getThreadMXBean();
        run(new HashgraphDesk());
        HashgraphDesk desk = new HashgraphDesk();
        long before = threads.getCurrentThreadAllocatedBytes();
        run(desk);
        long made = threads.getCurrentThreadAllocatedBytes() - before;
        System.out.println("  " + CALLS + " calls made " + made + " octets of objects");
        check.isTrue(CALLS + " calls made " + made + " octets", made < CALLS * MOST_OCTETS_PER_CALL);
        check.finish();
    }

    private static void run(HashgraphDesk desk) {
        for (int call = 0; call < CALLS; call++) {
            if (call % 128 == 0) {
                desk.begin(2 + call % 7);
            } else if (call % 2 == 0) {
                desk.sync(call / 2 % 2, 1 - call / 2 % 2, call);
            } else {
                desk.order(call / 2 % 2);
            }
        }
    }
}
