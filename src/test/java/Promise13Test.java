/** Promise 13: at() tells the k-th event of the order of a node. */
public final class Promise13Test {
    private static final String PROMISE = "promise 13";

    private static final Check check = new Check();

    public static void main(String[] args) {
        firstAndLast();
        eachOnce();
        noneInAnEmptyOne();
        notThatOfAnother();
        askedAgainAndAgain();
        refusedNodes();
        refusedPlaces();
        nodesBeforePlaces();
        check.finish();
    }

    private static void firstAndLast() {
        Desk desk = Runs.inTurn(8);
        check.due(PROMISE + ": at(0, 0)", desk.at(0, 0), 0);
        check.due(PROMISE + ": at(0, 3)", desk.at(0, 3), 3);
        check.outOfBounds(PROMISE + ": at(0, -1)", () -> desk.at(0, -1));
        check.outOfBounds(PROMISE + ": at(0, 4)", () -> desk.at(0, 4));
        Desk most = Runs.inTurn(240);
        check.due(PROMISE + ": at(0, 235)", most.at(0, 235), 235);
        check.outOfBounds(PROMISE + ": at(0, 236)", () -> most.at(0, 236));
    }

    private static void eachOnce() {
        Desk desk = Runs.inTurn(30);
        boolean[] came = new boolean[26];
        for (int k = 0; k < 26; k++) {
            int x = desk.at(0, k);
            check.isTrue(PROMISE + ": " + x + " comes once", x < 26 && !came[x]);
            came[x] = true;
            check.due(PROMISE + ": place of " + x, desk.found(0, x, 3), k);
        }
    }

    private static void noneInAnEmptyOne() {
        Desk desk = new Desk();
        for (int node = 0; node < 4; node++) {
            int asked = node;
            check.outOfBounds(PROMISE + ": at(" + node + ", 0)", () -> desk.at(asked, 0));
        }
    }

    private static void notThatOfAnother() {
        Desk desk = Runs.inTurn(8);
        check.outOfBounds(PROMISE + ": at(1, 0)", () -> desk.at(1, 0));
        Runs.goOnInTurn(desk, 10);
        check.due(PROMISE + ": at(0, 5)", desk.at(0, 5), 5);
        check.due(PROMISE + ": at(1, 3)", desk.at(1, 3), 3);
        check.outOfBounds(PROMISE + ": at(1, 4), though at(0, 4) is there", () -> desk.at(1, 4));
    }

    /** With one time for all the hashes tell the order: after each event it is found anew, and is the same. */
    private static void askedAgainAndAgain() {
        Both both = new Both(check, PROMISE, 2);
        for (int k = 2; k < 20; k++) {
            both.sync(k % 2, 1 - k % 2, 7);
            for (int node = 0; node < 2; node++) {
                Model.Finding finding = both.model.new Finding(node);
                for (int place = 0; place < finding.order.size(); place++) {
                    check.due(PROMISE + ": at(" + node + ", " + place + ")", both.desk.at(node, place),
                            finding.order.get(place).number);
                }
            }
        }
    }

    private static void makeSome(Desk desk) {
        desk.begin(2);
        Runs.goOnInTurn(desk, 12);
    }

    private static void refusedNodes() {
        Refusals refused = new Refusals(check, PROMISE, Promise13Test::makeSome);
        refused.illegalArgument("node -1", desk -> desk.at(-1, 0));
        refused.illegalArgument("node 2", desk -> desk.at(2, 0));
        for (int node : Edges.outside(0, 1)) {
            refused.illegalArgument("node " + node, desk -> desk.at(node, 0));
        }
        refused.changedNothing();
    }

    private static void refusedPlaces() {
        Refusals refused = new Refusals(check, PROMISE, Promise13Test::makeSome);
        refused.outOfBounds("k -1", desk -> desk.at(0, -1));
        refused.outOfBounds("k 8", desk -> desk.at(0, 8));
        for (int k : Edges.outside(0, 7)) {
            refused.outOfBounds("k " + k, desk -> desk.at(0, k));
        }
        refused.changedNothing();
    }

    /** Of several things that are wrong the node stands first. */
    private static void nodesBeforePlaces() {
        Desk desk = Runs.inTurn(12);
        check.illegalArgument(PROMISE + ": node 2, no place", () -> desk.at(2, 99));
        check.illegalArgument(PROMISE + ": node -1, no place", () -> desk.at(-1, -1));
    }
}
