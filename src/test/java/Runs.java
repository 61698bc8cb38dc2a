/** Runs that several tests go through. */
final class Runs {
    static final int MOST_EVENTS = 240;
    static final int LEFT = 5;
    static final int RIGHT = 6;

    private Runs() {
    }

    /**
     * Two nodes in turn: event 2 is by node 1, 3 by node 0 and so on, event k at time 10 * (k - 1). Both must lead to
     * what is strongly seen. Event 3 strongly sees 0 and 1: round 2. Event 4 strongly sees of round 2 event 3 alone:
     * round 2 by its other-parent. So it goes on: events 2r - 1 and 2r are the witnesses of round r, from 2 on.
     */
    static Desk inTurn(int events) {
        Desk desk = new Desk(2);
        goOnInTurn(desk, events);
        return desk;
    }

    static void goOnInTurn(Desk desk, int events) {
        for (int k = desk.count(1); k < events; k++) {
            desk.sync(k % 2, 1 - k % 2, 10L * (k - 1));
        }
    }

    /** The first speakers of n nodes pass on what they know in a ring: the k-th sync makes event n - 1 + k. */
    static Desk ring(int n, int speakers, int syncs) {
        Desk desk = new Desk(n);
        for (int k = 1; k <= syncs; k++) {
            desk.sync((k - 1) % speakers, k % speakers, k);
        }
        return desk;
    }

    /** Four nodes of which node 2 is heard by none: the other three are enough. */
    static Desk threeWithoutOne() {
        Desk desk = new Desk();
        int[] turn = {0, 1, 3};
        for (int k = 0; k < 60; k++) {
            desk.sync(turn[k % 3], turn[(k + 1) % 3], k);
        }
        return desk;
    }

    /** Three nodes: node 2 has heard of 0 and 1 and holds a fork, two children of event 0. */
    static Desk forked() {
        Desk desk = new Desk(3);
        desk.sync(0, 2, 1);
        desk.sync(1, 2, 1);
        desk.inject(2, 0, 0, -1, 1);
        desk.inject(2, 0, 0, -1, 2);
        return desk;
    }

    /** Four nodes with rounds, a fork, an order, payments and transactions that wait. */
    static void makeBusy(Desk desk) {
        for (int k = 0; k < 40; k++) {
            if (k % 5 == 0) {
                desk.submit(k % 4, (k + 1) % 4, 1000 * k);
            }
            desk.sync(k % 4, (k + 1) % 4, 3L * k);
        }
        desk.inject(0, 1, 1, 0, 7);
        for (int node = 0; node < 4; node++) {
            desk.submit(node, node, 9);
        }
    }

    /** Eight nodes, 240 events, among them a fork, and 8 transactions that wait at each node. */
    static void makeFull(Desk desk) {
        desk.begin(8);
        desk.sync(0, 1, 1);
        desk.inject(1, 0, 0, 8, 2);
        for (int k = 1; desk.count(1) < MOST_EVENTS; k++) {
            desk.sync(k % 8, (k + 1) % 8, k);
        }
        for (int node = 0; node < 8; node++) {
            for (int k = 0; k < 8; k++) {
                desk.submit(node, k, 1000000 - k);
            }
        }
    }
}
