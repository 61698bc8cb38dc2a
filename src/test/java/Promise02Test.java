/** Promise 2: begin() makes all anew, with 2 to 8 nodes. */
public final class Promise02Test {
    private static final String PROMISE = "promise 2";

    private static final Check check = new Check();

    public static void main(String[] args) {
        fewestAndMostNodes();
        eachNumberOfNodes();
        refusedOnNewObject();
        refusedOnBusyOne();
        anewAfterBusyOne();
        anewAfterFullOne();
        anewBetweenFewestAndMost();
        anewMoreThanOnce();
        nothingFoundBefore();
        noVotesOfBefore();
        check.finish();
    }

    private static void fewestAndMostNodes() {
        check.due(PROMISE + ": the fewest", new Desk(2).count(0), 2);
        check.due(PROMISE + ": the most", new Desk(8).count(0), 8);
    }

    private static void eachNumberOfNodes() {
        for (int n = 2; n <= 8; n++) {
            int nodes = n;
            Desk desk = new Desk(n);
            check.due(PROMISE + ": nodes after begin(" + n + ")", desk.count(0), n);
            check.due(PROMISE + ": events after begin(" + n + ")", desk.count(1), n);
            check.due(PROMISE + ": the last node of " + n, desk.found(n - 1, n - 1, 0), 1);
            check.illegalArgument(PROMISE + ": node " + n + " of " + n, () -> desk.order(nodes));
            check.outOfBounds(PROMISE + ": event " + n + " of " + n, () -> desk.event(nodes, 0));
        }
    }

    private static void tryAll(Refusals refused) {
        refused.illegalArgument("begin(1)", desk -> desk.begin(1));
        refused.illegalArgument("begin(0)", desk -> desk.begin(0));
        refused.illegalArgument("begin(9)", desk -> desk.begin(9));
        for (int n : Edges.outside(2, 8)) {
            refused.illegalArgument("begin(" + n + ")", desk -> desk.begin(n));
        }
        refused.changedNothing();
    }

    private static void refusedOnNewObject() {
        tryAll(new Refusals(check, PROMISE + ", on a new object", desk -> { }));
    }

    private static void refusedOnBusyOne() {
        tryAll(new Refusals(check, PROMISE + ", on a busy one", Runs::makeBusy));
    }

    private static void dueAnew(String after, Refusals.Recipe recipe, int n) {
        Desk desk = new Desk();
        recipe.make(desk);
        desk.begin(n);
        String what = PROMISE + ": begin(" + n + ") after " + after;
        check.alike(what, State.of(desk), State.of(new Desk(n)));
        check.alike(what + ", later", State.later(desk), State.later(new Desk(n)));
    }

    private static void anewAfterBusyOne() {
        for (int n = 2; n <= 8; n++) {
            dueAnew("a busy life", Runs::makeBusy, n);
        }
    }

    /** All 240 events and all places of all queues are free again. */
    private static void anewAfterFullOne() {
        for (int n : new int[] {2, 4, 8}) {
            dueAnew("a full life", Runs::makeFull, n);
        }
        Desk desk = new Desk();
        Runs.makeFull(desk);
        desk.begin(2);
        check.outOfBounds(PROMISE + ": event 2 is gone", () -> desk.event(2, 0));
        check.due(PROMISE + ": eight may wait again", desk.submit(1, 0, 1), 1);
        check.due(PROMISE + ": numbers begin again", desk.sync(0, 1, 1), 2);
        check.due(PROMISE + ": the self-parent is the first event", desk.event(2, 1), 1);
        check.due(PROMISE + ": the other-parent is the first event", desk.event(2, 2), 0);
        check.due(PROMISE + ": what waited is gone", desk.event(2, 5), 1);
    }

    private static void anewBetweenFewestAndMost() {
        dueAnew("8 nodes", desk -> desk.begin(8), 2);
        dueAnew("2 nodes", desk -> desk.begin(2), 8);
        dueAnew("as many", desk -> desk.sync(3, 2, 1), 4);
    }

    private static void anewMoreThanOnce() {
        dueAnew("several lives", desk -> {
            Runs.makeBusy(desk);
            desk.begin(2);
            desk.submit(1, 0, 3);
            Runs.goOnInTurn(desk, 30);
            desk.begin(4);
            Runs.makeBusy(desk);
        }, 3);
    }

    /** Two nodes have found 16 events decided, received and placed, and are asked so; then they know nearly nothing. */
    private static void nothingFoundBefore() {
        int[] due = {0, 0, 0, -1};
        for (int n : new int[] {2, 4, 8}) {
            Desk desk = Runs.inTurn(20);
            for (int x = 0; x < 16; x++) {
                check.isTrue(PROMISE + ": " + x + " has been received", desk.found(0, x, 2) > 0);
            }
            check.due(PROMISE + ": there has been an order", desk.order(1), 14);
            desk.begin(n);
            for (int k = n; k < 20; k++) {
                desk.sync(n - 2, n - 1, k);
            }
            for (int x = 1; x < 20; x++) {
                for (int what = 0; what < 4; what++) {
                    check.due(PROMISE + ": of " + n + " found(0, " + x + ", " + what + ")", desk.found(0, x, what),
                            due[what]);
                }
            }
            check.due(PROMISE + ": no order", desk.order(0) + desk.order(1), 0);
            check.due(PROMISE + ": no settled rounds", desk.count(4), 0);
        }
    }

    /** All votes have been yes; then there are forks, and events of the same numbers that vote no. */
    private static void noVotesOfBefore() {
        for (int n = 2; n <= 4; n++) {
            String name = PROMISE + ", a second life of " + n;
            Both both = new Both(check, name, n, Runs.inTurn(150));
            Gossip gossip = new Gossip(check, name, Gossip.MANY_FORKS, 5, 80, both);
            while (!gossip.isOver()) {
                gossip.goOn();
            }
            both.compareAll();
        }
    }
}
