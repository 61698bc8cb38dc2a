/** Promise 14: balance() tells what a node finds that each has. */
public final class Promise14Test {
    private static final String PROMISE = "promise 14";

    private static final Check check = new Check();

    public static void main(String[] args) {
        atFirst();
        onlyWhatIsReceived();
        asMuchAsItHas();
        oneMoreThanItHas();
        nothingOfNothing();
        toTheCreatorItself();
        oneAfterAnother();
        paidBeforeItPays();
        refused();
        check.finish();
    }

    private static void due(Desk desk, int node, int account, int due) {
        check.due(PROMISE + ": balance(" + node + ", " + account + ")", desk.balance(node, account), due);
    }

    private static void atFirst() {
        for (int n = 2; n <= 8; n++) {
            Desk desk = new Desk(n);
            for (int node = 0; node < n; node++) {
                due(desk, node, 0, 1000000);
                due(desk, 0, node, 1000000);
                due(desk, node, n - 1, 1000000);
            }
        }
    }

    /** Event 2 pays from node 1, event 3 from node 0; both are received when node 0 has made event 7. */
    private static void onlyWhatIsReceived() {
        Desk desk = new Desk(2);
        desk.submit(1, 0, 300);
        desk.submit(0, 1, 40);
        Runs.goOnInTurn(desk, 7);
        due(desk, 0, 0, 1000000);
        due(desk, 0, 1, 1000000);
        Runs.goOnInTurn(desk, 8);
        due(desk, 0, 0, 1000260);
        due(desk, 0, 1, 999740);
        due(desk, 1, 0, 1000000);
        due(desk, 1, 1, 1000000);
    }

    private static Desk afterPaymentsOfNode1(int... amounts) {
        Desk desk = new Desk(2);
        for (int amount : amounts) {
            desk.submit(1, 0, amount);
        }
        Runs.goOnInTurn(desk, 20);
        return desk;
    }

    private static void asMuchAsItHas() {
        Desk desk = afterPaymentsOfNode1(1000000);
        due(desk, 0, 1, 0);
        due(desk, 0, 0, 2000000);
        Desk inTwo = afterPaymentsOfNode1(999999, 1);
        due(inTwo, 0, 1, 0);
        due(inTwo, 0, 0, 2000000);
    }

    /** "Else nothing": not even a part of it. */
    private static void oneMoreThanItHas() {
        Desk desk = afterPaymentsOfNode1(1, 1000000);
        due(desk, 0, 1, 999999);
        due(desk, 0, 0, 1000001);
        Desk empty = afterPaymentsOfNode1(1000000, 1);
        due(empty, 0, 1, 0);
        due(empty, 0, 0, 2000000);
    }

    private static void nothingOfNothing() {
        Desk desk = afterPaymentsOfNode1(0);
        due(desk, 0, 1, 1000000);
        due(desk, 0, 0, 1000000);
        Desk empty = afterPaymentsOfNode1(1000000, 0);
        due(empty, 0, 1, 0);
        due(empty, 0, 0, 2000000);
    }

    private static void toTheCreatorItself() {
        Desk desk = new Desk(2);
        desk.submit(1, 1, 1000000);
        desk.submit(1, 1, 1000000);
        desk.submit(1, 0, 1000000);
        desk.submit(1, 1, 5);
        Runs.goOnInTurn(desk, 20);
        due(desk, 0, 1, 0);
        due(desk, 0, 0, 2000000);
    }

    /** What is too much does not go, what stands behind it does: two of an event, and two of a later one. */
    private static void oneAfterAnother() {
        Desk desk = afterPaymentsOfNode1(600000, 600000, 300000, 100001, 100000);
        due(desk, 0, 1, 0);
        due(desk, 0, 0, 2000000);
    }

    /** Node 0 can pay 1000000 twice only when it has been paid in between. */
    private static void paidBeforeItPays() {
        Desk desk = new Desk(2);
        desk.submit(0, 1, 1000000);
        Runs.goOnInTurn(desk, 4);
        desk.submit(1, 0, 999999);
        Runs.goOnInTurn(desk, 5);
        desk.submit(0, 1, 999999);
        desk.submit(0, 1, 1);
        Runs.goOnInTurn(desk, 30);
        due(desk, 0, 0, 0);
        due(desk, 0, 1, 2000000);
    }

    private static void refused() {
        for (int n : new int[] {2, 4, 8}) {
            Refusals refused = new Refusals(check, PROMISE, desk -> desk.begin(n));
            refused.illegalArgument("node -1", desk -> desk.balance(-1, 0));
            refused.illegalArgument("node " + n, desk -> desk.balance(n, 0));
            refused.illegalArgument("account -1", desk -> desk.balance(0, -1));
            refused.illegalArgument("account " + n, desk -> desk.balance(0, n));
            for (int node : Edges.outside(0, n - 1)) {
                refused.illegalArgument("node " + node, desk -> desk.balance(node, 0));
                refused.illegalArgument("account " + node, desk -> desk.balance(0, node));
                refused.illegalArgument("both " + node, desk -> desk.balance(node, node));
            }
            refused.changedNothing();
        }
    }
}
