/** Promise 11: stamp() tells the stamp of an event for a node. */
public final class Promise11Test {
    private static final String PROMISE = "promise 11";

    private static final Check check = new Check();

    public static void main(String[] args) {
        laterOneOfTwo();
        middleOneOfThree();
        leastAndGreatestTimes();
        notReceived();
        notHeld();
        refusedNodes();
        refusedEvents();
        inTheirOrder();
        check.finish();
    }

    private static void due(Desk desk, int node, int x, long due) {
        check.due(PROMISE + ": stamp(" + node + ", " + x + ")", desk.stamp(node, x), due);
    }

    /**
     * In the life of node 0 (0, 3, 5, ..) and of node 1 (1, 2, 4, ..) the first events above 0 are 0 and 2, above 1 are
     * 3 and 1, above 2 are 3 and 2, above 3 are 3 and 4: of two times the later one.
     */
    private static void laterOneOfTwo() {
        Desk desk = Runs.inTurn(8);
        long[] stamps = {10, 20, 20, 30};
        for (int x = 0; x < 4; x++) {
            due(desk, 0, x, stamps[x]);
        }
    }

    /** Of three nodes in a ring: first events at time 0, the k-th sync at time k. */
    private static void middleOneOfThree() {
        Both both = new Both(check, PROMISE, 3);
        for (int k = 1; k <= 30; k++) {
            both.sync((k - 1) % 3, k % 3, k);
        }
        due(both.desk, 0, 0, 1);
        due(both.desk, 0, 1, 2);
        due(both.desk, 0, 2, 3);
        both.compareNodes();
    }

    private static void leastAndGreatestTimes() {
        Desk desk = new Desk(2);
        long[] times = {Long.MAX_VALUE, Long.MIN_VALUE, Long.MIN_VALUE, 0, 0, 0, 0};
        for (int k = 2; k < 9; k++) {
            desk.sync(k % 2, 1 - k % 2, times[k - 2]);
        }
        due(desk, 0, 0, Long.MAX_VALUE);
        due(desk, 0, 1, 0);
        due(desk, 0, 2, Long.MAX_VALUE);
        due(desk, 0, 3, Long.MIN_VALUE);
    }

    private static void notReceived() {
        Refusals refused = new Refusals(check, PROMISE, desk -> {
            desk.begin(2);
            Runs.goOnInTurn(desk, 8);
        });
        for (int x = 4; x < 8; x++) {
            int asked = x;
            refused.unsupported("held and not received, " + x, desk -> desk.stamp(0, asked));
        }
        for (int x = 0; x < 7; x++) {
            int asked = x;
            refused.unsupported("received by node 0, not by node 1, " + x, desk -> desk.stamp(1, asked));
        }
        refused.changedNothing();
        Desk first = new Desk();
        for (int node = 0; node < 4; node++) {
            int asked = node;
            check.unsupported(PROMISE + ": the first event of " + node, () -> first.stamp(asked, asked));
        }
    }

    private static void notHeld() {
        Desk desk = Runs.threeWithoutOne();
        due(desk, 0, 4, desk.stamp(1, 4));
        check.unsupported(PROMISE + ": received by others, not held", () -> desk.stamp(2, 4));
        check.unsupported(PROMISE + ": held by node 2 alone", () -> desk.stamp(0, 2));
    }

    private static void makeSome(Desk desk) {
        desk.begin(2);
        Runs.goOnInTurn(desk, 20);
    }

    private static void refusedNodes() {
        Refusals refused = new Refusals(check, PROMISE, Promise11Test::makeSome);
        refused.illegalArgument("node -1", desk -> desk.stamp(-1, 0));
        refused.illegalArgument("node 2", desk -> desk.stamp(2, 0));
        for (int node : Edges.outside(0, 1)) {
            refused.illegalArgument("node " + node, desk -> desk.stamp(node, 0));
        }
        refused.changedNothing();
    }

    private static void refusedEvents() {
        Refusals refused = new Refusals(check, PROMISE, Promise11Test::makeSome);
        refused.outOfBounds("event -1", desk -> desk.stamp(0, -1));
        refused.outOfBounds("event 20", desk -> desk.stamp(0, 20));
        for (int x : Edges.outside(0, 19)) {
            refused.outOfBounds("event " + x, desk -> desk.stamp(0, x));
            refused.outOfBounds("event " + x, desk -> desk.stamp(1, x));
        }
        refused.changedNothing();
    }

    /** Of several things that are wrong: no node, then no event, then not received. */
    private static void inTheirOrder() {
        Desk desk = Runs.inTurn(20);
        check.illegalArgument(PROMISE + ": node 2, event 20", () -> desk.stamp(2, 20));
        check.illegalArgument(PROMISE + ": node -1, event -1", () -> desk.stamp(-1, -1));
        check.illegalArgument(PROMISE + ": node 2, event 19 that is not received", () -> desk.stamp(2, 19));
        check.outOfBounds(PROMISE + ": event 20, that is not received either", () -> desk.stamp(0, 20));
    }
}
