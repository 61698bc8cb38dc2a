/** Promises 9 to 14, and settled rounds of promise 15: what comes of two to five nodes that speak in turn. */
public final class FindingTest {
    private static final Check check = new Check();

    public static void main(String[] args) {
        rounds();
        votes();
        votesWrongly();
        tossedCoin();
        fame();
        received();
        foundWrongly();
        stamps();
        order();
        orderByTurnedHash();
        at();
        balances();
        balancesTooSmall();
        balancesInTheOrder();
        settledRounds();
        findsOnlyOfWhatIsHeld();
        check.finish();
    }

    /**
     * Two nodes in turn: event 2 is by node 1, 3 by node 0 and so on, event k at time 10 * (k - 1). Both must lead to
     * what is strongly seen. Event 3 strongly sees 0 and 1: round 2. Event 4 strongly sees of round 2 event 3 alone:
     * round 2 by its other-parent. So it goes on: events 2r - 1 and 2r are the witnesses of round r, from 2 on.
     */
    private static HashgraphDesk inTurn(int events) {
        HashgraphDesk desk = new HashgraphDesk();
        desk.begin(2);
        goOnInTurn(desk, events);
        return desk;
    }

    private static void goOnInTurn(HashgraphDesk desk, int events) {
        for (int k = desk.count(1); k < events; k++) {
            desk.sync(k % 2, 1 - k % 2, 10L * (k - 1));
        }
    }

    private static void rounds() {
        HashgraphDesk desk = inTurn(40);
        check.due("round of 2", desk.event(2, 3), 1);
        check.due("2 is no witness", desk.event(2, 4), 0);
        for (int x = 3; x < 40; x++) {
            check.due("round of " + x, desk.event(x, 3), (x + 1) / 2);
            check.due("witness " + x, desk.event(x, 4), 1);
        }
        check.due("the greatest round", desk.count(2), 20);
    }

    /** Promise 9. */
    private static void votes() {
        HashgraphDesk desk = inTurn(24);
        for (int y = 3; y < 24; y++) {
            for (int x = 0; x < 24; x++) {
                int distance = desk.event(y, 3) - desk.event(x, 3);
                if (x != 2 && distance > 0) {
                    boolean decides = distance != 1 && distance % 4 != 0;
                    check.due("vote(" + y + ", " + x + ")", desk.vote(y, x), decides ? 3 : 1);
                }
            }
        }
        HashgraphDesk three = threeWithoutOne();
        check.due("not seen", three.vote(8, 2), 0);
        check.due("seen", three.vote(8, 0), 1);
    }

    /** Four nodes of which node 2 is heard by none: the other three are enough. */
    private static HashgraphDesk threeWithoutOne() {
        HashgraphDesk desk = new HashgraphDesk();
        int[] turn = {0, 1, 3};
        for (int k = 0; k < 60; k++) {
            desk.sync(turn[k % 3], turn[(k + 1) % 3], k);
        }
        return desk;
    }

    private static void votesWrongly() {
        HashgraphDesk desk = inTurn(8);
        check.outOfBounds("y 8", () -> desk.vote(8, 0));
        check.outOfBounds("y -1", () -> desk.vote(-1, 0));
        check.outOfBounds("x 8", () -> desk.vote(5, 8));
        check.outOfBounds("x -1", () -> desk.vote(5, -1));
        check.outOfBounds("x 8 by no witness", () -> desk.vote(2, 8));
        check.outOfBounds("no y on no witness", () -> desk.vote(Integer.MAX_VALUE, 2));
        check.illegalArgument("on no witness", () -> desk.vote(5, 2));
        check.illegalArgument("by no witness", () -> desk.vote(2, 0));
        check.illegalArgument("of the same round", () -> desk.vote(4, 3));
        check.illegalArgument("on itself", () -> desk.vote(4, 4));
        check.illegalArgument("of a lesser round", () -> desk.vote(3, 5));
    }

    /** Gossip at random: where the electors of a coin are split its hash tells the vote, and no coin decides. */
    private static void tossedCoin() {
        int tossed = 0;
        int seed = 1;
        for (int run = 0; run < 30; run++) {
            HashgraphDesk desk = new HashgraphDesk();
            int nodes = 2 + run % 7;
            desk.begin(nodes);
            for (int k = 0; k < 150; k++) {
                seed = seed * 1103515245 + 12345;
                int from = (seed >>> 16) % nodes;
                desk.sync(from, (from + 1 + (seed >>> 8) % (nodes - 1)) % nodes, k);
            }
            tossed += compareCoins(desk);
        }
        check.isTrue("coins came up", tossed > 0);
    }

    private static int compareCoins(HashgraphDesk desk) {
        int tossed = 0;
        for (int y = 0; y < desk.count(1); y++) {
            for (int x = 0; x < desk.count(1); x++) {
                boolean areWitnesses = desk.event(x, 4) == 1 && desk.event(y, 4) == 1;
                int distance = desk.event(y, 3) - desk.event(x, 3);
                if (areWitnesses && distance > 0 && distance % 4 == 0) {
                    check.isTrue("a coin decides nothing", desk.vote(y, x) < 2);
                    int most = Math.max(electorsFor(desk, y, x, 0), electorsFor(desk, y, x, 1));
                    if (3 * most <= 2 * desk.count(0)) {
                        check.due("coin (" + y + ", " + x + ")", desk.vote(y, x), desk.hash(y, 4) < 0 ? 1 : 0);
                        tossed++;
                    }
                }
            }
        }
        return tossed;
    }

    private static int electorsFor(HashgraphDesk desk, int y, int x, int wanted) {
        int some = 0;
        for (int z = 0; z < desk.count(1); z++) {
            boolean isElector = desk.event(z, 4) == 1 && desk.event(z, 3) == desk.event(y, 3) - 1
                    && desk.sees(y, z, true);
            some += isElector && (desk.vote(z, x) & 1) == wanted ? 1 : 0;
        }
        return some;
    }

    /** Promise 10, what 0 and 1: round 1 is decided by event 5, of round 3. */
    private static void fame() {
        HashgraphDesk desk = inTurn(5);
        check.due("not decided yet", desk.found(0, 0, 1), 0);
        goOnInTurn(desk, 6);
        for (int x = 0; x < 6; x++) {
            check.due("node 0 holds " + x, desk.found(0, x, 0), 1);
            check.due("node 1 holds " + x, desk.found(1, x, 0), x < 5 ? 1 : 0);
            check.due("fame of " + x + " for node 0", desk.found(0, x, 1), x < 2 ? 3 : 0);
            check.due("fame of " + x + " for node 1", desk.found(1, x, 1), 0);
        }
        HashgraphDesk three = threeWithoutOne();
        check.due("seen by the others", three.found(0, 0, 1), 3);
        check.due("not held", three.found(0, 2, 1), 0);
        check.due("not held by another, not decided by itself", three.found(2, 2, 1), 0);
        three.sync(2, 0, 100);
        check.due("held too late", three.found(0, 2, 1), 1);
        check.due("and so not received before it has been seen", three.found(0, 2, 2), 0);
    }

    /** What 2: round 2 is decided by event 7; its witnesses 3 and 4 both have 0, 1, 2 and 3 as ancestors. */
    private static void received() {
        HashgraphDesk desk = inTurn(7);
        check.due("nothing is received", desk.order(0), 0);
        goOnInTurn(desk, 8);
        int[] place = {0, desk.found(0, 1, 3), desk.found(0, 2, 3), 3};
        for (int x = 0; x < 8; x++) {
            check.due("round of receipt of " + x + " for node 0", desk.found(0, x, 2), x < 4 ? 2 : 0);
            check.due("place of " + x + " for node 0", desk.found(0, x, 3), x < 4 ? place[x] : -1);
            check.due("round of receipt of " + x + " for node 1", desk.found(1, x, 2), 0);
            check.due("place of " + x + " for node 1", desk.found(1, x, 3), -1);
        }
        goOnInTurn(desk, 40);
        for (int x = 4; x < 30; x++) {
            check.due("round of receipt of " + x, desk.found(0, x, 2), x / 2 + 1);
        }
    }

    private static void foundWrongly() {
        HashgraphDesk desk = inTurn(9);
        for (int what = 0; what < 4; what++) {
            int asked = what;
            check.illegalArgument("node 2", () -> desk.found(2, 0, asked));
            check.illegalArgument("node -1", () -> desk.found(-1, 0, asked));
            check.illegalArgument("node 2, and no event", () -> desk.found(2, 9, asked));
            check.outOfBounds("event 9", () -> desk.found(0, 9, asked));
            check.outOfBounds("event -1", () -> desk.found(1, -1, asked));
        }
        check.illegalArgument("what 4", () -> desk.found(0, 0, 4));
        check.illegalArgument("what -1", () -> desk.found(0, 0, -1));
        check.illegalArgument("what 4 of no event", () -> desk.found(0, 9, 4));
        int[] notHeld = {0, 0, 0, -1};
        for (int what = 0; what < 4; what++) {
            check.due("event 8 is not held: " + what, desk.found(0, 8, what), notHeld[what]);
        }
    }

    /**
     * Promise 11. In the life of node 0 (0, 3, 5, ..) and of node 1 (1, 2, 4, ..) the first events above 0 are 0 and 2,
     * above 1 are 3 and 1, above 2 are 3 and 2, above 3 are 3 and 4: of two times the later one.
     */
    private static void stamps() {
        HashgraphDesk desk = inTurn(8);
        long[] stamps = {10, 20, 20, 30};
        for (int x = 0; x < 4; x++) {
            check.due("stamp of " + x, desk.stamp(0, x), stamps[x]);
            int asked = x;
            check.unsupported("stamp of " + x + " for node 1", () -> desk.stamp(1, asked));
        }
        check.unsupported("held, not received", () -> desk.stamp(0, 4));
        check.unsupported("not held", () -> desk.stamp(1, 7));
        check.illegalArgument("node 2", () -> desk.stamp(2, 0));
        check.illegalArgument("node -1", () -> desk.stamp(-1, 0));
        check.illegalArgument("node 2, and no event", () -> desk.stamp(2, 8));
        check.outOfBounds("event 8", () -> desk.stamp(0, 8));
        check.outOfBounds("event -1", () -> desk.stamp(1, -1));
        check.due("far from 0 on either side", extremeStamp(), 1);
    }

    private static int extremeStamp() {
        HashgraphDesk desk = new HashgraphDesk();
        desk.begin(2);
        long[] times = {Long.MIN_VALUE, Long.MIN_VALUE, Long.MIN_VALUE, 0, 0, 0, 0};
        times[2] = Long.MAX_VALUE;
        for (int k = 2; k < 9; k++) {
            desk.sync(k % 2, 1 - k % 2, times[k - 2]);
        }
        return desk.stamp(0, 0) == 0 && desk.stamp(0, 1) == 0 && desk.stamp(0, 2) == Long.MIN_VALUE
                && desk.stamp(0, 3) == Long.MAX_VALUE ? 1 : 0;
    }

    /** Promise 12. */
    private static void order() {
        HashgraphDesk desk = inTurn(8);
        check.due("order(0)", desk.order(0), 4);
        check.due("order(1)", desk.order(1), 0);
        goOnInTurn(desk, 9);
        check.due("order(1) later", desk.order(1), 4);
        goOnInTurn(desk, 40);
        check.due("order(0) at last", desk.order(0), 36);
        check.due("order(1) at last", desk.order(1), 34);
        check.illegalArgument("order(2)", () -> desk.order(2));
        check.illegalArgument("order(-1)", () -> desk.order(-1));
        check.due("order of a new object", new HashgraphDesk().order(3), 0);
    }

    /** Where rounds and stamps are alike, the hash is turned by those of the unique ones of the round. */
    private static void orderByTurnedHash() {
        int turnedTells = 0;
        for (int time = 0; time < 40; time++) {
            HashgraphDesk desk = new HashgraphDesk();
            desk.begin(2);
            for (int k = 2; k < 20; k++) {
                desk.sync(k % 2, 1 - k % 2, time);
            }
            for (int k = 1; k < desk.order(0); k++) {
                int before = desk.at(0, k - 1);
                int after = desk.at(0, k);
                int round = desk.found(0, after, 2);
                if (desk.found(0, before, 2) == round && desk.stamp(0, before) == desk.stamp(0, after)) {
                    int turn = desk.hash(2 * round - 1, 0) ^ desk.hash(2 * round, 0);
                    check.isTrue("turned hashes rise", Integer.compareUnsigned(desk.hash(before, 0) ^ turn,
                            desk.hash(after, 0) ^ turn) < 0);
                    turnedTells += Integer.compareUnsigned(desk.hash(before, 0), desk.hash(after, 0)) > 0 ? 1 : 0;
                }
            }
        }
        check.isTrue("it did not go by the bare hash", turnedTells > 0);
    }

    /** Promise 13. */
    private static void at() {
        HashgraphDesk desk = inTurn(8);
        check.due("at(0, 0)", desk.at(0, 0), 0);
        check.due("at(0, 1) and at(0, 2)", desk.at(0, 1) + desk.at(0, 2), 3);
        check.due("at(0, 3)", desk.at(0, 3), 3);
        for (int k = 0; k < 4; k++) {
            check.due("place of at(0, " + k + ")", desk.found(0, desk.at(0, k), 3), k);
        }
        check.outOfBounds("at(0, 4)", () -> desk.at(0, 4));
        check.outOfBounds("at(0, -1)", () -> desk.at(0, -1));
        check.outOfBounds("at(1, 0)", () -> desk.at(1, 0));
        check.outOfBounds("at(0, far)", () -> desk.at(0, Integer.MAX_VALUE));
        check.outOfBounds("at(0, far below)", () -> desk.at(0, Integer.MIN_VALUE));
        check.illegalArgument("at(2, 0)", () -> desk.at(2, 0));
        check.illegalArgument("at(-1, 99)", () -> desk.at(-1, 99));
    }

    /** Promise 14: event 2 pays from node 1, event 3 from node 0. */
    private static void balances() {
        HashgraphDesk desk = new HashgraphDesk();
        desk.begin(2);
        desk.submit(1, 0, 300);
        desk.submit(1, 1, 5000);
        desk.submit(0, 1, 40);
        goOnInTurn(desk, 7);
        check.due("node 0 has not received it", desk.balance(0, 0), 1000000);
        goOnInTurn(desk, 8);
        check.due("balance(0, 0)", desk.balance(0, 0), 1000260);
        check.due("balance(0, 1)", desk.balance(0, 1), 999740);
        check.due("balance(1, 0)", desk.balance(1, 0), 1000000);
        check.due("balance(1, 1)", desk.balance(1, 1), 1000000);
        check.illegalArgument("node 2", () -> desk.balance(2, 0));
        check.illegalArgument("node -1", () -> desk.balance(-1, 0));
        check.illegalArgument("account 2", () -> desk.balance(0, 2));
        check.illegalArgument("account -1", () -> desk.balance(0, -1));
    }

    private static void balancesTooSmall() {
        HashgraphDesk desk = new HashgraphDesk();
        desk.begin(2);
        desk.submit(1, 0, 600000);
        desk.submit(1, 0, 600000);
        desk.submit(1, 0, 400000);
        desk.submit(1, 0, 1);
        desk.submit(1, 0, 0);
        desk.submit(0, 0, 1000000);
        goOnInTurn(desk, 20);
        check.due("all goes, what is too much does not", desk.balance(0, 1), 0);
        check.due("to the other one", desk.balance(0, 0), 2000000);
    }

    /** Node 0 can pay 1000000 twice only when it has been paid in between. */
    private static void balancesInTheOrder() {
        HashgraphDesk desk = new HashgraphDesk();
        desk.begin(2);
        desk.submit(0, 1, 1000000);
        goOnInTurn(desk, 4);
        desk.submit(1, 0, 999999);
        goOnInTurn(desk, 5);
        desk.submit(0, 1, 999999);
        desk.submit(0, 1, 1);
        goOnInTurn(desk, 30);
        check.due("it has paid all", desk.balance(0, 0), 0);
        check.due("node 1 has all", desk.balance(0, 1), 2000000);
    }

    /** Promise 15, what 4: round r is settled for node 0 once event 2r + 3 is there, round 1 by event 5. */
    private static void settledRounds() {
        HashgraphDesk desk = new HashgraphDesk();
        desk.begin(2);
        for (int events = 2; events < 30; events++) {
            goOnInTurn(desk, events);
            int heldByNode0 = events % 2 == 0 ? events : events - 1;
            check.due("settled rounds with " + events, desk.count(4), Math.max(0, (heldByNode0 - 4) / 2));
        }
    }

    /** Two pairs of nodes that know nothing of one another find nothing, and then one node hears of all. */
    private static void findsOnlyOfWhatIsHeld() {
        HashgraphDesk desk = threeWithoutOne();
        check.due("a node that heard of nothing has no order", desk.order(2), 0);
        check.due("nor rounds", desk.found(2, 2, 2), 0);
        check.isTrue("the others have one", desk.order(0) > 20);
        desk.sync(0, 2, 1000);
        check.due("now it has that of node 0", desk.order(2), desk.order(0));
        for (int k = 0; k < desk.order(0); k++) {
            check.due("at " + k, desk.at(2, k), desk.at(0, k));
        }
        check.due("but for its own first one", desk.found(2, 2, 1), 1);
        check.due("which node 0 does not hold", desk.found(0, 2, 1), 0);
    }
}
