/** Promise 3: submit() lets a transaction wait at a node, 8 at most. */
public final class Promise03Test {
    private static final String PROMISE = "promise 3";
    private static final int MOST_AMOUNT = 1000000;

    private static final Check check = new Check();

    public static void main(String[] args) {
        tellsHowManyWaitAtTheNode();
        eighthHoldsNinthDoesNot();
        roomAgainAfterSync();
        firstAndLastNode();
        toTheNodeItself();
        leastAndGreatestAmount();
        refusedArguments();
        refusedWhereEightWait();
        waitingOnesMakeNoEvent();
        check.finish();
    }

    private static void tellsHowManyWaitAtTheNode() {
        Desk desk = new Desk(3);
        for (int k = 1; k <= 3; k++) {
            for (int node = 0; node < 3; node++) {
                check.due(PROMISE + ": " + k + " wait at node " + node, desk.submit(node, 0, 1), k);
            }
        }
        check.due(PROMISE + ": nine wait in all", desk.count(5), 9);
    }

    private static void eighthHoldsNinthDoesNot() {
        Desk desk = new Desk(3);
        for (int k = 1; k <= 8; k++) {
            check.due(PROMISE + ": the " + k + ". one", desk.submit(1, k % 3, k), k);
        }
        check.outOfBounds(PROMISE + ": the ninth", () -> desk.submit(1, 0, 1));
        check.outOfBounds(PROMISE + ": and once more", () -> desk.submit(1, 0, 1));
        check.due(PROMISE + ": eight wait on", desk.count(5), 8);
        check.due(PROMISE + ": one node's eight are not another's", desk.submit(2, 0, 1), 1);
        check.due(PROMISE + ": nor those of the node before", desk.submit(0, 0, 1), 1);
    }

    private static void roomAgainAfterSync() {
        Desk desk = new Desk(2);
        for (int k = 1; k <= 8; k++) {
            desk.submit(1, 0, k);
        }
        desk.sync(1, 0, 1);
        check.outOfBounds(PROMISE + ": a sync from it makes no room", () -> desk.submit(1, 0, 1));
        desk.sync(0, 1, 2);
        for (int k = 6; k <= 8; k++) {
            check.due(PROMISE + ": a sync to it makes room for three, " + k, desk.submit(1, 0, 1), k);
        }
        check.outOfBounds(PROMISE + ": and for no more", () -> desk.submit(1, 0, 1));
        for (int left = 5; left >= 0; left -= 3) {
            desk.sync(0, 1, 3);
        }
        desk.sync(0, 1, 4);
        check.due(PROMISE + ": all have gone", desk.submit(1, 0, 1), 1);
    }

    private static void firstAndLastNode() {
        for (int n = 2; n <= 8; n++) {
            Desk desk = new Desk(n);
            check.due(PROMISE + ": from the first to the last of " + n, desk.submit(0, n - 1, 1), 1);
            check.due(PROMISE + ": from the last to the first of " + n, desk.submit(n - 1, 0, 1), 1);
        }
    }

    private static void toTheNodeItself() {
        Both both = new Both(check, PROMISE, 2);
        both.submit(0, 0, 5);
        both.submit(1, 1, 5);
        both.sync(1, 0, 1);
        both.sync(0, 1, 1);
        both.compareEvents();
    }

    /** The hash, made of the octets of the amounts, shows that they are kept whole and in their order. */
    private static void leastAndGreatestAmount() {
        Both both = new Both(check, PROMISE, 2);
        for (int amount : new int[] {0, MOST_AMOUNT, 1, MOST_AMOUNT - 1, 255, 256, 65535, 65536}) {
            both.submit(1, 0, amount);
        }
        for (int k = 0; k < 3; k++) {
            both.sync(0, 1, k);
        }
        both.compareEvents();
        both.compareCounts();
    }

    private static void tryArguments(Refusals refused, int n) {
        refused.illegalArgument("node -1", desk -> desk.submit(-1, 0, 1));
        refused.illegalArgument("node " + n, desk -> desk.submit(n, 0, 1));
        refused.illegalArgument("to -1", desk -> desk.submit(0, -1, 1));
        refused.illegalArgument("to " + n, desk -> desk.submit(0, n, 1));
        refused.illegalArgument("amount -1", desk -> desk.submit(0, 1, -1));
        refused.illegalArgument("amount 1000001", desk -> desk.submit(0, 1, MOST_AMOUNT + 1));
        for (int node : Edges.outside(0, n - 1)) {
            refused.illegalArgument("node " + node, desk -> desk.submit(node, 0, 1));
            refused.illegalArgument("to " + node, desk -> desk.submit(0, node, 1));
        }
        for (int amount : Edges.outside(0, MOST_AMOUNT)) {
            refused.illegalArgument("amount " + amount, desk -> desk.submit(0, 1, amount));
        }
        refused.illegalArgument("all three", desk -> desk.submit(n, n, -1));
    }

    private static void refusedArguments() {
        for (int n : new int[] {2, 5, 8}) {
            Refusals refused = new Refusals(check, PROMISE + ", " + n + " nodes", desk -> desk.begin(n));
            tryArguments(refused, n);
            refused.changedNothing();
        }
    }

    /** Of several things that are wrong the one that stands first is thrown: the arguments before the full queue. */
    private static void refusedWhereEightWait() {
        Refusals refused = new Refusals(check, PROMISE + ", where 8 wait", desk -> {
            desk.begin(3);
            for (int k = 0; k < 8; k++) {
                desk.submit(0, k % 3, k);
            }
        });
        tryArguments(refused, 3);
        refused.outOfBounds("the ninth", desk -> desk.submit(0, 1, 1));
        refused.outOfBounds("the ninth, of the least amount", desk -> desk.submit(0, 0, 0));
        refused.outOfBounds("the ninth, of the greatest amount", desk -> desk.submit(0, 2, MOST_AMOUNT));
        refused.changedNothing();
    }

    private static void waitingOnesMakeNoEvent() {
        Desk desk = new Desk(2);
        desk.submit(0, 1, 500);
        check.due(PROMISE + ": no event", desk.count(1), 2);
        check.due(PROMISE + ": no transaction in the first one", desk.event(0, 5), 0);
        check.due(PROMISE + ": no payment", desk.balance(0, 0), 1000000);
    }
}
