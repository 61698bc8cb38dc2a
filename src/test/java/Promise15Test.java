/** Promise 15: count() tells how many nodes, events, rounds, forks, settled rounds and waiting transactions are. */
public final class Promise15Test {
    private static final String PROMISE = "promise 15";

    private static final Check check = new Check();

    public static void main(String[] args) {
        firstAndLastWhat();
        atFirst();
        fewestAndMostNodes();
        eventsUpToAll();
        greatestRound();
        forks();
        forksOfAllEvents();
        settledRounds();
        settledRoundsOfNodeZero();
        waitingFromNoneToAll();
        refused();
        check.finish();
    }

    private static void due(Desk desk, int what, int due) {
        check.due(PROMISE + ": count(" + what + ")", desk.count(what), due);
    }

    private static void firstAndLastWhat() {
        Desk desk = new Desk(3);
        desk.submit(1, 0, 1);
        due(desk, 0, 3);
        due(desk, 5, 1);
        check.illegalArgument(PROMISE + ": count(-1)", () -> desk.count(-1));
        check.illegalArgument(PROMISE + ": count(6)", () -> desk.count(6));
    }

    private static void atFirst() {
        for (int n = 2; n <= 8; n++) {
            int[] counts = {n, n, 1, 0, 0, 0};
            for (int what = 0; what < counts.length; what++) {
                due(new Desk(n), what, counts[what]);
            }
        }
    }

    private static void fewestAndMostNodes() {
        Desk desk = new Desk();
        due(desk, 0, 4);
        desk.begin(8);
        due(desk, 0, 8);
        desk.begin(2);
        due(desk, 0, 2);
    }

    private static void eventsUpToAll() {
        Desk desk = new Desk(2);
        for (int events = 2; events <= 240; events++) {
            Runs.goOnInTurn(desk, events);
            due(desk, 1, events);
        }
        check.outOfBounds(PROMISE + ": none more", () -> desk.sync(0, 1, 1));
        due(desk, 1, 240);
    }

    /** Of all events, whoever holds them. */
    private static void greatestRound() {
        Desk desk = new Desk(2);
        for (int events = 2; events < 60; events++) {
            Runs.goOnInTurn(desk, events);
            due(desk, 2, events < 4 ? 1 : events / 2);
        }
        due(Runs.inTurn(240), 2, 120);
        Desk injected = new Desk(2);
        injected.sync(0, 1, 1);
        due(injected, 2, 1);
        check.due(PROMISE + ": injected in round 2", injected.event(injected.inject(1, 0, 0, 2, 5), 3), 2);
        due(injected, 2, 2);
        Desk behind = Runs.inTurn(12);
        check.due(PROMISE + ": the last event is of round 1", behind.event(behind.inject(1, 0, 0, -1, 5), 3), 1);
        due(behind, 2, 6);
    }

    private static void forks() {
        Desk desk = new Desk(2);
        desk.sync(0, 1, 1);
        desk.sync(1, 0, 2);
        due(desk, 3, 0);
        desk.inject(1, 0, 0, -1, 1);
        due(desk, 3, 1);
        desk.inject(1, 0, 0, -1, 2);
        due(desk, 3, 3);
        desk.inject(1, 0, 4, -1, 3);
        due(desk, 3, 5);
        desk.sync(0, 1, 4);
        due(desk, 3, 5);
        desk.sync(1, 0, 5);
        due(desk, 3, 8);
    }

    private static void forksOfAllEvents() {
        Desk desk = new Desk(2);
        desk.sync(1, 0, 1);
        for (int k = 3; k < 240; k++) {
            desk.inject(0, 1, 1, 0, k);
        }
        due(desk, 3, 237 * 236 / 2);
        desk.begin(2);
        due(desk, 3, 0);
    }

    /** Round r is settled for node 0 once event 2r + 3 is there, which node 0 makes. */
    private static void settledRounds() {
        Desk desk = new Desk(2);
        for (int events = 2; events < 60; events++) {
            Runs.goOnInTurn(desk, events);
            due(desk, 4, Math.max(0, (events / 2 * 2 - 4) / 2));
        }
        due(Runs.inTurn(240), 4, 118);
    }

    /** Node 0 hears of nothing until the end. */
    private static void settledRoundsOfNodeZero() {
        Desk desk = new Desk(4);
        for (int k = 0; k < 60; k++) {
            desk.sync(1 + k % 3, 1 + (k + 1) % 3, k);
        }
        due(desk, 4, 0);
        check.isTrue(PROMISE + ": node 1 has an order", desk.order(1) > 0);
        desk.sync(3, 0, 60);
        check.isTrue(PROMISE + ": then node 0, too", desk.count(4) > 3);
    }

    private static void waitingFromNoneToAll() {
        Desk desk = new Desk(8);
        for (int node = 0; node < 8; node++) {
            for (int k = 0; k < 8; k++) {
                due(desk, 5, 8 * node + k);
                desk.submit(node, k, 1);
            }
        }
        due(desk, 5, 64);
        check.outOfBounds(PROMISE + ": none more", () -> desk.submit(7, 0, 1));
        due(desk, 5, 64);
        desk.sync(0, 7, 1);
        due(desk, 5, 61);
        desk.begin(8);
        due(desk, 5, 0);
    }

    private static void refused() {
        Refusals refused = new Refusals(check, PROMISE, Runs::makeBusy);
        for (int what : Edges.outside(0, 5)) {
            refused.illegalArgument("count(" + what + ")", desk -> desk.count(what));
        }
        refused.changedNothing();
    }
}
