/** Promise 10: found() tells what a node finds of an event. */
public final class Promise10Test {
    private static final String PROMISE = "promise 10";

    private static final Check check = new Check();

    public static void main(String[] args) {
        holds();
        fameOfTheFirstRound();
        fameByWhatIsHeld();
        fameOfOneNeverSeen();
        roundsOfReceipt();
        places();
        notHeld();
        firstAndLastWhat();
        refused();
        refusedBeforeEvents();
        check.finish();
    }

    private static void due(Desk desk, int node, int x, int what, int due) {
        check.due(PROMISE + ": found(" + node + ", " + x + ", " + what + ")", desk.found(node, x, what), due);
    }

    private static void holds() {
        Desk desk = Runs.inTurn(6);
        for (int x = 0; x < 6; x++) {
            due(desk, 0, x, 0, 1);
            due(desk, 1, x, 0, x < 5 ? 1 : 0);
        }
    }

    /** Round 1 is decided by event 5, of round 3, and round 2 by event 7; event 2 is no witness. */
    private static void fameOfTheFirstRound() {
        Desk desk = Runs.inTurn(5);
        for (int x = 0; x < 5; x++) {
            due(desk, 0, x, 1, 0);
        }
        Runs.goOnInTurn(desk, 7);
        for (int x = 0; x < 7; x++) {
            due(desk, 0, x, 1, x < 2 ? 3 : 0);
        }
        Runs.goOnInTurn(desk, 8);
        for (int x = 0; x < 8; x++) {
            due(desk, 0, x, 1, x != 2 && x < 5 ? 3 : 0);
        }
    }

    /** The one that decides must be held. */
    private static void fameByWhatIsHeld() {
        Desk desk = Runs.inTurn(6);
        due(desk, 0, 0, 1, 3);
        due(desk, 1, 0, 1, 0);
        desk.sync(0, 1, 60);
        due(desk, 1, 0, 1, 3);
    }

    private static void fameOfOneNeverSeen() {
        Desk desk = Runs.threeWithoutOne();
        due(desk, 0, 0, 1, 3);
        due(desk, 0, 2, 1, 0);
        due(desk, 2, 2, 1, 0);
        desk.sync(2, 0, 100);
        due(desk, 0, 2, 1, 1);
        due(desk, 2, 2, 1, 0);
    }

    /** Round 2 is settled by event 7; its witnesses 3 and 4 both have 0, 1, 2 and 3 as ancestors. */
    private static void roundsOfReceipt() {
        Desk desk = Runs.inTurn(7);
        for (int x = 0; x < 7; x++) {
            due(desk, 0, x, 2, 0);
        }
        Runs.goOnInTurn(desk, 8);
        for (int x = 0; x < 8; x++) {
            due(desk, 0, x, 2, x < 4 ? 2 : 0);
            due(desk, 1, x, 2, 0);
        }
        Runs.goOnInTurn(desk, 40);
        for (int x = 4; x < 40; x++) {
            due(desk, 0, x, 2, x < 36 ? x / 2 + 1 : 0);
        }
    }

    private static void places() {
        Desk desk = Runs.inTurn(8);
        due(desk, 0, 0, 3, 0);
        due(desk, 0, 3, 3, 3);
        check.due(PROMISE + ": 1 and 2 lie between", desk.found(0, 1, 3) + desk.found(0, 2, 3), 3);
        for (int x = 4; x < 8; x++) {
            due(desk, 0, x, 3, -1);
        }
        for (int x = 0; x < 8; x++) {
            due(desk, 1, x, 3, -1);
        }
    }

    /** "0, 0, -1 if it does not hold it": a witness that others found famous and received, too. */
    private static void notHeld() {
        Desk desk = new Desk(3);
        for (int k = 0; k < 40; k++) {
            desk.sync(k % 3, (k + 1) % 3, k);
        }
        int last = desk.count(1) - 1;
        int[] due = {0, 0, 0, -1};
        for (int what = 0; what < 4; what++) {
            due(desk, 0, last, what, due[what]);
        }
        Desk four = Runs.threeWithoutOne();
        for (int x : new int[] {0, 1, 3, 4, 5}) {
            check.isTrue(PROMISE + ": node 0 received " + x, four.found(0, x, 2) > 0);
            for (int what = 0; what < 4; what++) {
                due(four, 2, x, what, due[what]);
            }
        }
    }

    private static void firstAndLastWhat() {
        Desk desk = Runs.inTurn(8);
        due(desk, 0, 3, 0, 1);
        due(desk, 0, 3, 3, 3);
        check.illegalArgument(PROMISE + ": what -1", () -> desk.found(0, 3, -1));
        check.illegalArgument(PROMISE + ": what 4", () -> desk.found(0, 3, 4));
    }

    private static void refused() {
        Refusals refused = new Refusals(check, PROMISE, Runs::makeBusy);
        int events = 45;
        for (int what = 0; what < 4; what++) {
            int asked = what;
            refused.illegalArgument("node -1", desk -> desk.found(-1, 0, asked));
            refused.illegalArgument("node 4", desk -> desk.found(4, 0, asked));
            refused.outOfBounds("event -1", desk -> desk.found(0, -1, asked));
            refused.outOfBounds("event 45", desk -> desk.found(3, events, asked));
            for (int node : Edges.outside(0, 3)) {
                refused.illegalArgument("node " + node, desk -> desk.found(node, 0, asked));
            }
            for (int x : Edges.outside(0, events - 1)) {
                refused.outOfBounds("event " + x, desk -> desk.found(3, x, asked));
            }
        }
        for (int what : Edges.outside(0, 3)) {
            refused.illegalArgument("what " + what, desk -> desk.found(0, 0, what));
        }
        refused.changedNothing();
    }

    /** Of several things that are wrong: the node and the what before the event. */
    private static void refusedBeforeEvents() {
        Desk desk = Runs.inTurn(9);
        check.illegalArgument(PROMISE + ": node 2, event 9", () -> desk.found(2, 9, 0));
        check.illegalArgument(PROMISE + ": node -1, event -1", () -> desk.found(-1, -1, 1));
        check.illegalArgument(PROMISE + ": what 4, event 9", () -> desk.found(0, 9, 4));
        check.illegalArgument(PROMISE + ": what -1, event -1", () -> desk.found(1, -1, -1));
        check.illegalArgument(PROMISE + ": all three", () -> desk.found(2, 9, 4));
    }
}
