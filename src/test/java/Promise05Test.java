/** Promise 5: inject() gives a node an event of another creator. */
public final class Promise05Test {
    private static final String PROMISE = "promise 5";

    private static final Check check = new Check();

    public static void main(String[] args) {
        withAndWithoutOtherParent();
        firstAndLastNode();
        onlyTheNodeHoldsIt();
        withoutTransactions();
        timesOfAllKinds();
        refusedNodes();
        refusedSelf();
        refusedOther();
        refusedIfItIsThere();
        thereThoughNotHeld();
        eachPartMakesAnother();
        alikeByNumbersNotByHash();
        notAlikeWithTransactions();
        lastEventAndNoMore();
        refusedWithAllEvents();
        check.finish();
    }

    private static void dueParts(Desk desk, int x, int... parts) {
        for (int what = 0; what < parts.length; what++) {
            check.due(PROMISE + ": event(" + x + ", " + what + ")", desk.event(x, what), parts[what]);
        }
    }

    private static void withAndWithoutOtherParent() {
        Desk desk = new Desk(3);
        desk.sync(1, 0, 1);
        check.due(PROMISE + ": without", desk.inject(0, 1, 1, -1, 4), 4);
        dueParts(desk, 4, 1, 1, -1, 1, 0, 0, 1, 2);
        check.due(PROMISE + ": with the first event", desk.inject(0, 1, 4, 0, 5), 5);
        dueParts(desk, 5, 1, 4, 0, 1, 0, 0, 1, 4);
        check.due(PROMISE + ": with the latest", desk.inject(0, 1, 5, 3, 6), 6);
        dueParts(desk, 6, 1, 5, 3, 1, 0, 0, 1, 6);
        check.due(PROMISE + ": the first event as self-parent once more", desk.inject(0, 1, 1, 3, 6), 7);
        dueParts(desk, 7, 1, 1, 3, 1, 0, 0, 1, 4);
    }

    private static void firstAndLastNode() {
        for (int n = 2; n <= 8; n++) {
            Desk desk = new Desk(n);
            desk.sync(0, n - 1, 1);
            desk.sync(n - 1, 0, 1);
            check.due(PROMISE + ": the first gets one of the last of " + n, desk.inject(0, n - 1, n - 1, 0, 5), n + 2);
            check.due(PROMISE + ": the last gets one of the first of " + n, desk.inject(n - 1, 0, 0, n - 1, 5), n + 3);
        }
    }

    private static void onlyTheNodeHoldsIt() {
        Desk desk = new Desk(3);
        desk.sync(1, 0, 1);
        desk.inject(0, 1, 1, 3, 4);
        for (int node = 0; node < 3; node++) {
            check.due(PROMISE + ": found(" + node + ", 4, 0)", desk.found(node, 4, 0), node == 0 ? 1 : 0);
            check.due(PROMISE + ": node " + node + " holds 3", desk.found(node, 3, 0), node == 0 ? 1 : 0);
        }
    }

    private static void withoutTransactions() {
        Desk desk = new Desk(2);
        desk.submit(0, 1, 5);
        desk.submit(1, 1, 5);
        desk.sync(1, 0, 1);
        check.due(PROMISE + ": none in it", desk.event(desk.inject(0, 1, 1, -1, 4), 5), 0);
        check.due(PROMISE + ": what waits at its creator waits on", desk.count(5), 1);
        check.due(PROMISE + ": and goes into what it makes", desk.event(desk.sync(0, 1, 2), 5), 1);
    }

    private static void timesOfAllKinds() {
        Both both = new Both(check, PROMISE, 2);
        both.sync(1, 0, 1);
        long[] times = {0, 1, -1, 1L << 31, 1L << 32, Long.MAX_VALUE, Long.MIN_VALUE};
        for (long time : times) {
            both.inject(0, 1, 1, -1, time);
            both.inject(0, 1, both.size() - 1, 2, time);
        }
        both.compareAll();
    }

    /** Node 0 holds 0, 1, 4 and 6, node 3 holds 2, 3 and 5: event 4 is by node 0, 5 by node 3, 6 by node 1. */
    private static void makeThreeMore(Desk desk) {
        desk.begin(4);
        desk.sync(1, 0, 1);
        desk.sync(2, 3, 1);
        desk.inject(0, 1, 1, 0, 7);
    }

    private static void refusedNodes() {
        Refusals refused = new Refusals(check, PROMISE, Promise05Test::makeThreeMore);
        refused.illegalArgument("node -1", desk -> desk.inject(-1, 1, 1, 0, 8));
        refused.illegalArgument("node 4", desk -> desk.inject(4, 1, 1, 0, 8));
        refused.illegalArgument("creator -1", desk -> desk.inject(0, -1, 1, 0, 8));
        refused.illegalArgument("creator 4", desk -> desk.inject(0, 4, 1, 0, 8));
        for (int node = 0; node < 4; node++) {
            int same = node;
            refused.illegalArgument("node and creator " + node, desk -> desk.inject(same, same, same, -1, 8));
        }
        for (int node : Edges.outside(0, 3)) {
            refused.illegalArgument("node " + node, desk -> desk.inject(node, 1, 1, 0, 8));
            refused.illegalArgument("creator " + node, desk -> desk.inject(0, node, 1, 0, 8));
            refused.illegalArgument("node and creator " + node, desk -> desk.inject(node, node, 1, 0, 8));
        }
        refused.changedNothing();
    }

    private static void refusedSelf() {
        Refusals refused = new Refusals(check, PROMISE + ", self", Promise05Test::makeThreeMore);
        refused.illegalArgument("-1", desk -> desk.inject(0, 1, -1, 0, 8));
        refused.illegalArgument("-1 without an other-parent", desk -> desk.inject(0, 1, -1, -1, 8));
        refused.illegalArgument("-1, as the first event has it", desk -> desk.inject(0, 1, -1, -1, 0));
        refused.illegalArgument("7, the next number", desk -> desk.inject(0, 1, 7, 0, 8));
        refused.illegalArgument("2, not held", desk -> desk.inject(0, 2, 2, 0, 8));
        refused.illegalArgument("5, not held", desk -> desk.inject(0, 3, 5, 0, 8));
        refused.illegalArgument("0, by the node", desk -> desk.inject(0, 1, 0, -1, 8));
        refused.illegalArgument("4, by the node", desk -> desk.inject(0, 1, 4, 0, 8));
        refused.illegalArgument("2, by a third one", desk -> desk.inject(3, 1, 2, -1, 8));
        for (int x : Edges.outside(0, 6)) {
            refused.illegalArgument(String.valueOf(x), desk -> desk.inject(0, 1, x, 0, 8));
        }
        refused.changedNothing();
    }

    private static void refusedOther() {
        Refusals refused = new Refusals(check, PROMISE + ", other", Promise05Test::makeThreeMore);
        refused.illegalArgument("-2", desk -> desk.inject(0, 1, 1, -2, 8));
        refused.illegalArgument("7, the next number", desk -> desk.inject(0, 1, 1, 7, 8));
        refused.illegalArgument("2, not held", desk -> desk.inject(0, 1, 1, 2, 8));
        refused.illegalArgument("5, not held", desk -> desk.inject(0, 1, 1, 5, 8));
        refused.illegalArgument("1, the self-parent", desk -> desk.inject(0, 1, 1, 1, 8));
        refused.illegalArgument("6, by the creator", desk -> desk.inject(0, 1, 1, 6, 8));
        refused.illegalArgument("1, by the creator", desk -> desk.inject(0, 1, 6, 1, 8));
        for (int x : Edges.outside(-1, 6)) {
            refused.illegalArgument(String.valueOf(x), desk -> desk.inject(0, 1, 1, x, 8));
        }
        refused.changedNothing();
    }

    private static void refusedIfItIsThere() {
        Refusals refused = new Refusals(check, PROMISE, desk -> {
            makeThreeMore(desk);
            desk.inject(0, 1, 6, -1, 0);
            desk.sync(1, 2, 9);
            desk.sync(2, 0, 9);
        });
        refused.illegalState("an injected one", desk -> desk.inject(0, 1, 1, 0, 7));
        refused.illegalState("one without an other-parent", desk -> desk.inject(0, 1, 6, -1, 0));
        refused.illegalState("one made by sync()", desk -> desk.inject(0, 2, 2, 1, 9));
        refused.illegalState("and again", desk -> desk.inject(0, 2, 2, 1, 9));
        refused.illegalArgument("one that is there, without holding its parent", desk -> desk.inject(3, 1, 1, 0, 7));
        refused.illegalArgument("one that is there, by the node", desk -> desk.inject(2, 2, 2, 1, 9));
        refused.changedNothing();
    }

    /** "There is an event": of all events, not only of those that the node holds. */
    private static void thereThoughNotHeld() {
        Desk desk = new Desk(3);
        desk.sync(1, 0, 0);
        desk.sync(0, 1, 1);
        check.due(PROMISE + ": node 0 does not hold what node 1 made", desk.found(0, 4, 0), 0);
        check.illegalState(PROMISE + ": yet it is there", () -> desk.inject(0, 1, 1, 3, 1));
        check.due(PROMISE + ": it holds it no more than before", desk.found(0, 4, 0), 0);
        desk.sync(1, 2, 2);
        check.due(PROMISE + ": one that node 1 alone holds", desk.inject(1, 0, 3, 4, 50), 6);
        check.illegalState(PROMISE + ": is there for node 2", () -> desk.inject(2, 0, 3, 4, 50));
    }

    private static void eachPartMakesAnother() {
        Desk desk = new Desk(4);
        makeThreeMore(desk);
        check.due(PROMISE + ": a later time", desk.inject(0, 1, 1, 0, 8), 7);
        check.due(PROMISE + ": an earlier one", desk.inject(0, 1, 1, 0, 6), 8);
        check.due(PROMISE + ": one alike in its low 32 bits", desk.inject(0, 1, 1, 0, 7 + (1L << 32)), 9);
        check.due(PROMISE + ": one alike in its low 63 bits", desk.inject(0, 1, 1, 0, 7 + Long.MIN_VALUE), 10);
        check.due(PROMISE + ": another other-parent", desk.inject(0, 1, 1, 4, 7), 11);
        check.due(PROMISE + ": no other-parent", desk.inject(0, 1, 1, -1, 7), 12);
        check.due(PROMISE + ": another self-parent", desk.inject(0, 1, 6, 0, 7), 13);
    }

    /** Of two events with one hash each may have a child with the same time: their hash is one, too. */
    private static void alikeByNumbersNotByHash() {
        Desk desk = new Desk(2);
        desk.sync(0, 1, 1);
        int injected = desk.inject(1, 0, 0, 2, 5);
        int made = desk.sync(1, 0, 5);
        desk.sync(0, 1, 6);
        int first = desk.inject(1, 0, injected, 2, 8);
        int second = desk.inject(1, 0, made, 2, 8);
        check.due(PROMISE + ": a child of the other", second, first + 1);
        for (int word = 0; word < 8; word++) {
            check.due(PROMISE + ": one hash, word " + word, desk.hash(second, word), desk.hash(first, word));
        }
        check.illegalState(PROMISE + ": now both are there", () -> desk.inject(1, 0, made, 2, 8));
    }

    private static void notAlikeWithTransactions() {
        Desk desk = new Desk(3);
        desk.submit(1, 0, 0);
        check.due(PROMISE + ": an event with a transaction", desk.event(desk.sync(0, 1, 5), 5), 1);
        desk.sync(1, 2, 6);
        check.due(PROMISE + ": the same without it", desk.inject(2, 1, 1, 0, 5), 5);
        check.illegalState(PROMISE + ": now it is there", () -> desk.inject(2, 1, 1, 0, 5));
    }

    private static void makeAllEvents(Desk desk) {
        desk.begin(2);
        desk.sync(1, 0, 1);
        for (int k = 3; k < 240; k++) {
            desk.inject(0, 1, 1, 0, k);
        }
    }

    private static void lastEventAndNoMore() {
        Desk desk = new Desk();
        makeAllEvents(desk);
        check.due(PROMISE + ": there are 240", desk.count(1), 240);
        check.due(PROMISE + ": the last one is held", desk.found(0, 239, 0), 1);
        check.outOfBounds(PROMISE + ": none more", () -> desk.inject(0, 1, 1, 0, 1000));
        Desk before = new Desk(2);
        before.sync(1, 0, 1);
        for (int k = 3; k < 239; k++) {
            before.sync(k % 2, 1 - k % 2, k);
        }
        check.due(PROMISE + ": the 240th by inject()", before.inject(0, 1, 1, 0, 1000), 239);
        check.outOfBounds(PROMISE + ": then none more by sync()", () -> before.sync(0, 1, 1));
    }

    /** Of several things that are wrong the first: the arguments, then whether it is there, then the 240 events. */
    private static void refusedWithAllEvents() {
        Refusals refused = new Refusals(check, PROMISE + ", 240 events", Promise05Test::makeAllEvents);
        refused.outOfBounds("another one", desk -> desk.inject(0, 1, 1, 0, 1000));
        refused.outOfBounds("without an other-parent", desk -> desk.inject(0, 1, 239, -1, 100));
        refused.illegalState("one that is there", desk -> desk.inject(0, 1, 1, 0, 100));
        refused.illegalState("the last one", desk -> desk.inject(0, 1, 1, 0, 239));
        refused.illegalArgument("self by another", desk -> desk.inject(0, 1, 0, 0, 100));
        refused.illegalArgument("self 240", desk -> desk.inject(0, 1, 240, 0, 100));
        refused.illegalArgument("other by the creator", desk -> desk.inject(0, 1, 1, 239, 100));
        refused.illegalArgument("other 240", desk -> desk.inject(0, 1, 1, 240, 100));
        refused.illegalArgument("no node", desk -> desk.inject(2, 1, 1, 0, 100));
        refused.changedNothing();
    }
}
