/** Promise 8: sees() tells whether an event sees another, strongly or not. */
public final class Promise08Test {
    private static final String PROMISE = "promise 8";

    private static final Check check = new Check();

    public static void main(String[] args) {
        itselfAndAncestors();
        noneWithAForkBelow();
        forkOfItsOwn();
        stronglyThroughThree();
        stronglyThoughNotSeen();
        notStronglyThroughThoseWhoDoNotSee();
        firstAndLastEvent();
        refused();
        check.finish();
    }

    private static void itselfAndAncestors() {
        Desk desk = new Desk(3);
        desk.sync(0, 1, 1);
        desk.sync(1, 2, 2);
        String[] rows = {"10000", "01000", "00100", "11010", "11111"};
        for (int x = 0; x < 5; x++) {
            for (int y = 0; y < 5; y++) {
                check.due(PROMISE + ": sees(" + x + ", " + y + ")", desk.sees(x, y, false), rows[x].charAt(y) == '1');
            }
        }
    }

    private static void dueSeen(Desk desk, int x, int y, boolean isSeen) {
        check.due(PROMISE + ": sees(" + x + ", " + y + ", false)", desk.sees(x, y, false), isSeen);
    }

    /** Two children of event 0 and one of theirs. One side of a fork is seen, both sides hide it all. */
    private static void noneWithAForkBelow() {
        Desk desk = new Desk(4);
        desk.sync(0, 1, 1);
        int left = desk.inject(1, 0, 0, 1, 7);
        int right = desk.inject(1, 0, 0, 1, 8);
        int child = desk.inject(1, 0, left, 4, 9);
        dueSeen(desk, child, left, true);
        dueSeen(desk, child, right, false);
        desk.sync(2, 1, 10);
        desk.sync(3, 1, 11);
        int onlyLeft = desk.inject(1, 2, 2, left, 11);
        dueSeen(desk, onlyLeft, left, true);
        dueSeen(desk, onlyLeft, 0, true);
        int onlyRight = desk.inject(1, 3, 3, right, 12);
        dueSeen(desk, onlyRight, right, true);
        int over = desk.inject(1, 3, onlyRight, child, 13);
        for (int hidden : new int[] {0, left, right, child}) {
            dueSeen(desk, over, hidden, false);
        }
        dueSeen(desk, over, 1, true);
        dueSeen(desk, over, 3, true);
        dueSeen(desk, over, over, true);
    }

    /** One who knows of its own fork does not see itself, nor its past. */
    private static void forkOfItsOwn() {
        Desk desk = Runs.forked();
        int heard = desk.inject(2, 1, 1, Runs.LEFT, 7);
        int own = desk.inject(2, 0, Runs.RIGHT, heard, 8);
        for (int hidden : new int[] {own, Runs.RIGHT, Runs.LEFT, 0}) {
            dueSeen(desk, own, hidden, false);
        }
        dueSeen(desk, own, heard, true);
        dueSeen(desk, own, 1, true);
    }

    private static void dueStrong(Desk desk, int x, int y, boolean isSeen) {
        check.due(PROMISE + ": sees(" + x + ", " + y + ", true)", desk.sees(x, y, true), isSeen);
    }

    private static void stronglyThroughThree() {
        Desk desk = new Desk(3);
        desk.sync(0, 1, 1);
        desk.sync(1, 2, 2);
        dueStrong(desk, 4, 0, true);
        dueStrong(desk, 4, 1, false);
        dueStrong(desk, 3, 3, false);
        dueStrong(desk, 0, 0, false);
        desk.sync(2, 0, 3);
        dueStrong(desk, 5, 1, true);
        dueStrong(desk, 5, 3, true);
        dueStrong(desk, 5, 2, false);
        dueStrong(desk, 0, 5, false);
    }

    /**
     * The words ask that x sees z and z sees y, not that x sees y. Of seven nodes five are enough: nodes 1 to 5 tell
     * one another of event 0, then of either child of it. Who knows of both children does not see 0.
     */
    private static void stronglyThoughNotSeen() {
        Desk desk = new Desk(7);
        for (int node = 0; node < 6; node++) {
            desk.sync(node, 6, node);
        }
        int[] told = new int[6];
        for (int node = 1; node < 6; node++) {
            told[node] = desk.inject(6, node, node, told[node - 1], 20);
        }
        int left = desk.inject(6, 0, 0, -1, 30);
        int right = desk.inject(6, 0, 0, -1, 31);
        int overLeft = desk.inject(6, 1, told[1], left, 32);
        int overRight = desk.inject(6, 2, told[2], right, 33);
        int overBoth = desk.inject(6, 2, overRight, overLeft, 34);
        dueSeen(desk, overBoth, 0, false);
        dueStrong(desk, overBoth, 0, false);
        int overAll = desk.inject(6, 5, told[5], overBoth, 35);
        dueSeen(desk, overAll, 0, false);
        dueStrong(desk, overAll, 0, true);
    }

    /** The other way round: five of seven nodes know of event 0 and of both children of it, so none of them sees it. */
    private static void notStronglyThroughThoseWhoDoNotSee() {
        Desk desk = new Desk(7);
        for (int node = 0; node < 6; node++) {
            desk.sync(node, 6, node);
        }
        int left = desk.inject(6, 0, 0, -1, 30);
        int right = desk.inject(6, 0, 0, -1, 31);
        int overLeft = desk.inject(6, 1, 1, left, 32);
        int last = desk.inject(6, 1, overLeft, right, 33);
        for (int node = 2; node < 6; node++) {
            last = desk.inject(6, node, node, last, 34);
        }
        dueStrong(desk, last, overLeft, true);
        dueStrong(desk, last, 1, true);
        for (int hidden : new int[] {0, left, right}) {
            dueSeen(desk, last, hidden, false);
            dueStrong(desk, last, hidden, false);
        }
    }

    private static void firstAndLastEvent() {
        Desk desk = Runs.inTurn(240);
        for (boolean strongly : new boolean[] {false, true}) {
            check.isTrue(PROMISE + ": the last sees the first", desk.sees(239, 0, strongly));
            check.isTrue(PROMISE + ": the first does not see the last", !desk.sees(0, 239, strongly));
            check.outOfBounds(PROMISE + ": x 240", () -> desk.sees(240, 0, strongly) ? 1 : 0);
            check.outOfBounds(PROMISE + ": y 240", () -> desk.sees(0, 240, strongly) ? 1 : 0);
        }
        check.isTrue(PROMISE + ": the last sees itself", desk.sees(239, 239, false));
        check.isTrue(PROMISE + ": one node alone is not enough", !desk.sees(239, 239, true));
    }

    private static void refused() {
        Refusals refused = new Refusals(check, PROMISE, Runs::makeBusy);
        int events = 45;
        for (boolean strongly : new boolean[] {false, true}) {
            refused.outOfBounds("x -1", desk -> desk.sees(-1, 0, strongly));
            refused.outOfBounds("y -1", desk -> desk.sees(0, -1, strongly));
            refused.outOfBounds("x 45", desk -> desk.sees(events, 0, strongly));
            refused.outOfBounds("y 45", desk -> desk.sees(0, events, strongly));
            refused.outOfBounds("both 45", desk -> desk.sees(events, events, strongly));
            for (int x : Edges.outside(0, events - 1)) {
                refused.outOfBounds("x " + x, desk -> desk.sees(x, events - 1, strongly));
                refused.outOfBounds("y " + x, desk -> desk.sees(events - 1, x, strongly));
                refused.outOfBounds("both " + x, desk -> desk.sees(x, x, strongly));
            }
        }
        refused.changedNothing();
    }
}
