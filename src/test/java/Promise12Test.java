/** Promise 12: order() tells how many events the order of a node has. */
public final class Promise12Test {
    private static final String PROMISE = "promise 12";

    private static final Check check = new Check();

    public static void main(String[] args) {
        noneAtFirst();
        growsByWhatIsHeld();
        ofAllEvents();
        ofOneWhoHearsNothing();
        refused();
        check.finish();
    }

    private static void noneAtFirst() {
        for (int n = 2; n <= 8; n++) {
            Desk desk = new Desk(n);
            for (int node = 0; node < n; node++) {
                check.due(PROMISE + ": order(" + node + ") of " + n, desk.order(node), 0);
            }
        }
    }

    /** Events 2r - 1 and 2r are the witnesses of round r; it is settled by event 2r + 3 and receives up to 2r - 1. */
    private static void growsByWhatIsHeld() {
        Desk desk = new Desk(2);
        for (int events = 2; events < 40; events++) {
            Runs.goOnInTurn(desk, events);
            int even = events / 2 * 2;
            int odd = (events - 1) / 2 * 2 + 1;
            check.due(PROMISE + ": order(0) with " + events, desk.order(0), even < 8 ? 0 : even - 4);
            check.due(PROMISE + ": order(1) with " + events, desk.order(1), odd < 9 ? 0 : odd - 5);
        }
    }

    private static void ofAllEvents() {
        Desk desk = Runs.inTurn(240);
        check.due(PROMISE + ": order(0) of 240", desk.order(0), 236);
        check.due(PROMISE + ": order(1) of 240", desk.order(1), 234);
    }

    private static void ofOneWhoHearsNothing() {
        Desk desk = Runs.threeWithoutOne();
        check.due(PROMISE + ": node 2", desk.order(2), 0);
        check.isTrue(PROMISE + ": the others have one", desk.order(0) > 20);
        desk.sync(0, 2, 1000);
        check.due(PROMISE + ": now it has that of node 0", desk.order(2), desk.order(0));
        for (int k = 0; k < desk.order(0); k++) {
            check.due(PROMISE + ": at " + k, desk.at(2, k), desk.at(0, k));
        }
        check.due(PROMISE + ": but for its own first event, decided to be no", desk.found(2, 2, 1), 1);
    }

    private static void refused() {
        for (int n : new int[] {2, 4, 8}) {
            Refusals refused = new Refusals(check, PROMISE, desk -> desk.begin(n));
            refused.illegalArgument("order(-1)", desk -> desk.order(-1));
            refused.illegalArgument("order(" + n + ")", desk -> desk.order(n));
            for (int node : Edges.outside(0, n - 1)) {
                refused.illegalArgument("order(" + node + ")", desk -> desk.order(node));
            }
            refused.changedNothing();
        }
    }
}
