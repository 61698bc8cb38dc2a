/** Promise 1: a new object has 4 nodes. */
public final class Promise01Test {
    private static final String PROMISE = "promise 1";

    private static final Check check = new Check();

    public static void main(String[] args) {
        fourNodes();
        noNodeBesides();
        firstEvents();
        emptyElse();
        asBegunWithFour();
        objectsOfTheirOwn();
        check.finish();
    }

    private static void fourNodes() {
        Desk desk = new Desk();
        check.due(PROMISE + ": count(0)", desk.count(0), 4);
        for (int node = 0; node < 4; node++) {
            check.due(PROMISE + ": order(" + node + ")", desk.order(node), 0);
            check.due(PROMISE + ": balance(3, " + node + ")", desk.balance(3, node), 1000000);
            check.due(PROMISE + ": submit(" + node + ", ..)", desk.submit(node, 3 - node, 1), 1);
        }
    }

    private static void noNodeBesides() {
        Refusals refused = new Refusals(check, PROMISE, desk -> { });
        for (int node : Edges.outside(0, 3)) {
            refused.illegalArgument("submit at " + node, desk -> desk.submit(node, 0, 1));
            refused.illegalArgument("submit to " + node, desk -> desk.submit(0, node, 1));
            refused.illegalArgument("sync from " + node, desk -> desk.sync(node, 0, 1));
            refused.illegalArgument("sync to " + node, desk -> desk.sync(0, node, 1));
            refused.illegalArgument("order of " + node, desk -> desk.order(node));
            refused.illegalArgument("balance of " + node, desk -> desk.balance(0, node));
        }
        refused.changedNothing();
    }

    private static void firstEvents() {
        Desk desk = new Desk();
        check.due(PROMISE + ": count(1)", desk.count(1), 4);
        for (int x = 0; x < 4; x++) {
            int[] parts = {x, -1, -1, 1, 1, 0, 1, 1};
            for (int what = 0; what < parts.length; what++) {
                check.due(PROMISE + ": event(" + x + ", " + what + ")", desk.event(x, what), parts[what]);
            }
            for (int node = 0; node < 4; node++) {
                check.due(PROMISE + ": found(" + node + ", " + x + ", 0)", desk.found(node, x, 0), node == x ? 1 : 0);
            }
        }
        check.outOfBounds(PROMISE + ": there is no event 4", () -> desk.event(4, 0));
        check.due(PROMISE + ": the first sync makes it", desk.sync(0, 1, 1), 4);
    }

    private static void emptyElse() {
        Desk desk = new Desk();
        check.due(PROMISE + ": the greatest round", desk.count(2), 1);
        check.due(PROMISE + ": no forks", desk.count(3), 0);
        check.due(PROMISE + ": no settled rounds", desk.count(4), 0);
        check.due(PROMISE + ": nothing waits", desk.count(5), 0);
        for (int node = 0; node < 4; node++) {
            int asked = node;
            check.outOfBounds(PROMISE + ": at(" + node + ", 0)", () -> desk.at(asked, 0));
            check.unsupported(PROMISE + ": stamp(" + node + ", ..)", () -> desk.stamp(asked, asked));
        }
    }

    private static void asBegunWithFour() {
        check.alike(PROMISE + ": as begin(4)", State.of(new Desk()), State.of(new Desk(4)));
        check.alike(PROMISE + ": as begin(4), later", State.later(new Desk()), State.later(new Desk(4)));
    }

    private static void objectsOfTheirOwn() {
        Desk first = new Desk(3);
        first.submit(0, 1, 5);
        first.sync(0, 1, 1);
        Desk second = new Desk();
        check.alike(PROMISE + ": a new object after another", State.of(second), State.of(new Desk()));
        second.sync(2, 3, 9);
        check.due(PROMISE + ": what waits in the other one", first.count(5), 1);
        check.due(PROMISE + ": the events of the other one", first.count(1), 4);
    }
}
