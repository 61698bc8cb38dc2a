/** Promise 6: event() tells the parts of an event. */
public final class Promise06Test {
    private static final String PROMISE = "promise 6";

    private static final Check check = new Check();

    public static void main(String[] args) {
        allParts();
        firstAndLastPart();
        transactionsFromNoneToThree();
        holdersFromOneToAll();
        ancestorsFromOneToAll();
        ancestorsThoughNotSeen();
        firstAndLastEvent();
        refused();
        check.finish();
    }

    private static void allParts() {
        Desk desk = new Desk(2);
        desk.submit(1, 0, 300);
        desk.submit(1, 1, 0);
        desk.sync(0, 1, 10);
        desk.sync(1, 0, 20);
        desk.sync(0, 1, 30);
        int[][] parts = {{0, -1, -1, 1, 1, 0, 2, 1}, {1, -1, -1, 1, 1, 0, 2, 1}, {1, 1, 0, 1, 0, 2, 2, 3},
            {0, 0, 2, 2, 1, 0, 2, 4}, {1, 2, 3, 2, 1, 0, 1, 5}};
        for (int x = 0; x < parts.length; x++) {
            for (int what = 0; what < 8; what++) {
                check.due(PROMISE + ": event(" + x + ", " + what + ")", desk.event(x, what), parts[x][what]);
            }
        }
    }

    private static void firstAndLastPart() {
        Desk desk = Runs.inTurn(3);
        check.due(PROMISE + ": what 0", desk.event(2, 0), 1);
        check.due(PROMISE + ": what 7", desk.event(2, 7), 3);
        check.illegalArgument(PROMISE + ": what -1", () -> desk.event(2, -1));
        check.illegalArgument(PROMISE + ": what 8", () -> desk.event(2, 8));
    }

    private static void transactionsFromNoneToThree() {
        Desk desk = new Desk(2);
        check.due(PROMISE + ": none", desk.event(desk.sync(0, 1, 1), 5), 0);
        for (int some = 1; some <= 5; some++) {
            for (int k = 0; k < some; k++) {
                desk.submit(1, 0, 1);
            }
            check.due(PROMISE + ": of " + some, desk.event(desk.sync(0, 1, 1), 5), Math.min(some, 3));
            desk.sync(0, 1, 1);
        }
    }

    private static void holdersFromOneToAll() {
        Desk desk = new Desk(8);
        for (int node = 1; node < 8; node++) {
            check.due(PROMISE + ": holders of 0 before " + node, desk.event(0, 6), node);
            desk.sync(node - 1, node, 1);
        }
        check.due(PROMISE + ": all hold 0", desk.event(0, 6), 8);
        check.due(PROMISE + ": one holds the last", desk.event(14, 6), 1);
        desk.inject(7, 0, 0, 14, 2);
        check.due(PROMISE + ": one holds what was injected", desk.event(15, 6), 1);
    }

    /** Itself, too; one that both parents have is counted once. */
    private static void ancestorsFromOneToAll() {
        Desk desk = Runs.inTurn(240);
        check.due(PROMISE + ": of the first", desk.event(0, 7), 1);
        check.due(PROMISE + ": of the other first", desk.event(1, 7), 1);
        for (int x = 2; x < 240; x++) {
            check.due(PROMISE + ": ancestors of " + x, desk.event(x, 7), x + 1);
        }
        check.due(PROMISE + ": witness of the greatest round", desk.event(239, 4), 1);
        check.due(PROMISE + ": the greatest round", desk.event(239, 3), 120);
    }

    /** Those of a forker are ancestors, too. */
    private static void ancestorsThoughNotSeen() {
        Desk desk = Runs.forked();
        int overLeft = desk.inject(2, 1, 1, Runs.LEFT, 3);
        check.due(PROMISE + ": above one side", desk.event(overLeft, 7), 4);
        int overBoth = desk.inject(2, 1, overLeft, Runs.RIGHT, 4);
        check.due(PROMISE + ": above both sides", desk.event(overBoth, 7), 6);
        check.isTrue(PROMISE + ": of which three are not seen", !desk.sees(overBoth, 0, false)
                && !desk.sees(overBoth, Runs.LEFT, false) && !desk.sees(overBoth, Runs.RIGHT, false));
    }

    private static void firstAndLastEvent() {
        Desk desk = Runs.inTurn(240);
        check.due(PROMISE + ": creator of 239", desk.event(239, 0), 0);
        check.due(PROMISE + ": self-parent of 239", desk.event(239, 1), 237);
        check.due(PROMISE + ": other-parent of 239", desk.event(239, 2), 238);
        check.outOfBounds(PROMISE + ": no event 240", () -> desk.event(240, 0));
        Desk fewer = new Desk(2);
        check.due(PROMISE + ": the last one at first", fewer.event(1, 0), 1);
        check.outOfBounds(PROMISE + ": none besides", () -> fewer.event(2, 0));
        fewer.sync(0, 1, 1);
        check.due(PROMISE + ": now there is", fewer.event(2, 0), 1);
    }

    /** Where both are wrong what stands first is thrown. */
    private static void refused() {
        Refusals refused = new Refusals(check, PROMISE, Runs::makeBusy);
        int events = 45;
        for (int what = 0; what < 8; what++) {
            int asked = what;
            refused.outOfBounds("event -1, " + what, desk -> desk.event(-1, asked));
            refused.outOfBounds("event " + events + ", " + what, desk -> desk.event(events, asked));
            for (int x : Edges.outside(0, events - 1)) {
                refused.outOfBounds("event " + x + ", " + what, desk -> desk.event(x, asked));
            }
        }
        for (int what : Edges.outside(0, 7)) {
            refused.illegalArgument("event 0, " + what, desk -> desk.event(0, what));
            refused.illegalArgument("event 44, " + what, desk -> desk.event(events - 1, what));
            refused.illegalArgument("event -1, " + what, desk -> desk.event(-1, what));
            refused.illegalArgument("event " + events + ", " + what, desk -> desk.event(events, what));
        }
        refused.changedNothing();
    }
}
