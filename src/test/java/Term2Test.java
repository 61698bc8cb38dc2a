import java.util.ArrayList;
import java.util.List;
import java.util.function.Predicate;

/** Term 2: ancestors, forks, what is seen, rounds, witnesses and votes, each at its edges. */
public final class Term2Test {
    private static final String TERM = "term 2 (promises 6, 8, 9 and 15)";

    /** Nodes, style and seed of gossip in which the rarer votes come up. */
    private static final int[][] VOTED = {{2, Gossip.MANY_FORKS, 1}, {3, Gossip.TWO_HALVES, 1},
        {4, Gossip.TWO_HALVES, 3}, {5, Gossip.TWO_HALVES, 49}, {5, Gossip.TWO_HALVES, 22}, {5, Gossip.TWO_HALVES, 11},
        {5, Gossip.TWO_HALVES, 9}, {5, Gossip.HONEST, 6}, {6, Gossip.HONEST, 1}, {6, Gossip.HONEST, 4},
        {6, Gossip.ONE_SELDOM, 17}, {6, Gossip.TWO_HALVES, 24}, {7, Gossip.HONEST, 1}, {7, Gossip.HONEST, 18},
        {7, Gossip.MANY_FORKS, 2}, {8, Gossip.HONEST, 15}, {8, Gossip.HONEST, 19}, {8, Gossip.TWO_HALVES, 10}};

    private static final Check check = new Check();
    private static final List<Ballot> ballots = new ArrayList<>();

    public static void main(String[] args) {
        ancestorsWithItself();
        noForkWithItselfOrItsOwn();
        forksAmongMany();
        seesNoneOfOneWithBothSides();
        stronglySeesThroughMoreThanTwoThirds();
        oneNodeCountsOnce();
        roundByMoreThanTwoThirds();
        roundOfTheGreaterParent();
        roundWithoutOtherParent();
        witnesses();
        for (int[] run : VOTED) {
            ballots.addAll(Ballot.allOf(Gossip.whole(check, run[0], run[1], run[2], Runs.MOST_EVENTS).desk));
        }
        voteOneRoundAbove();
        voteOfHalf();
        voteOfNone();
        votesThatAreJustTooFew();
        votesThatAreJustEnough();
        coinsThatAreClear();
        coinsThatAreTossed();
        coinsDecideNothing();
        roundsBesideTheCoin();
        votesThoughDecidedBefore();
        check.finish();
    }

    private static void ancestorsWithItself() {
        Desk desk = new Desk(2);
        check.due(TERM + ": ancestors of a first event", desk.event(0, 7), 1);
        desk.sync(0, 1, 1);
        check.due(TERM + ": and of one with two parents", desk.event(2, 7), 3);
        desk.sync(1, 0, 1);
        check.due(TERM + ": one that both parents have is one", desk.event(3, 7), 4);
        check.due(TERM + ": of one without an other-parent", desk.event(desk.inject(0, 1, 2, -1, 1), 7), 4);
    }

    private static void noForkWithItselfOrItsOwn() {
        Desk desk = new Desk(2);
        check.due(TERM + ": no fork of single events", desk.count(3), 0);
        for (int k = 0; k < 20; k++) {
            desk.sync(k % 2, 1 - k % 2, k);
        }
        check.due(TERM + ": none in a chain", desk.count(3), 0);
        desk.inject(1, 0, 0, -1, 1);
        check.due(TERM + ": one beside a chain of ten", desk.count(3), 10);
    }

    private static void forksAmongMany() {
        Desk desk = Runs.forked();
        check.due(TERM + ": two children", desk.count(3), 1);
        desk.inject(2, 0, Runs.LEFT, -1, 3);
        check.due(TERM + ": a grandchild and its parent's twin", desk.count(3), 2);
        desk.inject(2, 1, 1, Runs.LEFT, 4);
        check.due(TERM + ": other creators make none with these", desk.count(3), 2);
        desk.inject(2, 1, 1, Runs.LEFT, 5);
        check.due(TERM + ": but their own", desk.count(3), 3);
    }

    /** Both sides below: nothing of the forker, but all of the others; one side, or the fork elsewhere: all. */
    private static void seesNoneOfOneWithBothSides() {
        Desk desk = Runs.forked();
        int overLeft = desk.inject(2, 1, 1, Runs.LEFT, 3);
        int overBoth = desk.inject(2, 1, overLeft, Runs.RIGHT, 4);
        int[][] rows = {{Runs.LEFT, 0, 1}, {Runs.LEFT, Runs.LEFT, 1}, {Runs.LEFT, Runs.RIGHT, 0},
            {Runs.RIGHT, Runs.RIGHT, 1}, {overLeft, 0, 1}, {overLeft, Runs.LEFT, 1}, {overLeft, Runs.RIGHT, 0},
            {overBoth, 0, 0}, {overBoth, Runs.LEFT, 0}, {overBoth, Runs.RIGHT, 0}, {overBoth, 1, 1},
            {overBoth, overLeft, 1}, {overBoth, overBoth, 1}};
        for (int[] row : rows) {
            check.due(TERM + ": sees(" + row[0] + ", " + row[1] + ", false)", desk.sees(row[0], row[1], false),
                    row[2] == 1);
        }
    }

    /** After k syncs in a ring the last event sees 0 by the events of k + 1 nodes. */
    private static void stronglySeesThroughMoreThanTwoThirds() {
        for (int n = 2; n <= 8; n++) {
            int tooFew = Ballot.tooFew(n);
            Desk desk = Runs.ring(n, n, n - 1);
            for (int k = 1; k < n; k++) {
                check.due(TERM + ": " + (k + 1) + " of " + n, desk.sees(n - 1 + k, 0, true), k + 1 > tooFew);
            }
            check.isTrue(TERM + ": one of " + n, !desk.sees(0, 0, true));
        }
        check.isTrue(TERM + ": two of three are not more than two thirds", !Runs.ring(3, 3, 1).sees(3, 0, true));
        check.isTrue(TERM + ": three of three are", Runs.ring(3, 3, 2).sees(4, 0, true));
        check.isTrue(TERM + ": four of six are not", !Runs.ring(6, 6, 3).sees(8, 0, true));
        check.isTrue(TERM + ": five of six are", Runs.ring(6, 6, 4).sees(9, 0, true));
    }

    /** However many events a node makes: those of as many nodes as are too few never are enough. */
    private static void oneNodeCountsOnce() {
        for (int n = 3; n <= 8; n++) {
            Desk desk = Runs.ring(n, Ballot.tooFew(n), 40);
            for (int x = 0; x < desk.count(1); x++) {
                check.isTrue(TERM + ": " + x + " of " + n, !desk.sees(desk.count(1) - 1, x, true));
            }
            check.due(TERM + ": no round comes of it", desk.count(2), 1);
        }
    }

    /**
     * In a ring the k-th event strongly sees the first event of node j if k - j + 1 are enough: so it strongly sees
     * just enough first events when k is twice that less 2, and one too few a step before.
     */
    private static void roundByMoreThanTwoThirds() {
        for (int n = 2; n <= 8; n++) {
            int enough = Ballot.tooFew(n) + 1;
            Desk desk = Runs.ring(n, n, 2 * enough - 2);
            int last = n - 1 + 2 * enough - 2;
            for (int x = 0; x < last; x++) {
                check.due(TERM + ": of " + n + " round of " + x, desk.event(x, 3), 1);
            }
            int some = 0;
            for (int first = 0; first < n; first++) {
                some += desk.sees(last - 1, first, true) ? 1 : 0;
            }
            check.due(TERM + ": of " + n + " the one before strongly sees", some, enough - 1);
            check.due(TERM + ": of " + n + " round of the last", desk.event(last, 3), 2);
            check.due(TERM + ": it is a witness", desk.event(last, 4), 1);
        }
    }

    /** Witnesses of a lesser round than the greater parent's do not count, however many are strongly seen. */
    private static void roundOfTheGreaterParent() {
        Desk desk = Runs.threeWithoutOne();
        int greatest = desk.count(2);
        check.isTrue(TERM + ": many rounds", greatest > 5);
        int late = desk.sync(0, 2, 100);
        check.due(TERM + ": the other-parent's is greater", desk.event(late, 3), desk.event(desk.event(late, 2), 3));
        check.due(TERM + ": the self-parent's is 1", desk.event(desk.event(late, 1), 3), 1);
        check.due(TERM + ": it is a witness", desk.event(late, 4), 1);
        Desk other = Runs.threeWithoutOne();
        int self = other.sync(2, 0, 100);
        check.due(TERM + ": the self-parent's is greater", other.event(self, 3), other.event(other.event(self, 1), 3));
        check.due(TERM + ": the other-parent's is 1", other.event(other.event(self, 2), 3), 1);
        check.due(TERM + ": it is none", other.event(self, 4), 0);
    }

    private static void roundWithoutOtherParent() {
        Desk desk = Runs.inTurn(12);
        int first = desk.inject(1, 0, 0, -1, 1);
        check.due(TERM + ": round of a child of 0 alone", desk.event(first, 3), 1);
        check.due(TERM + ": no witness", desk.event(first, 4), 0);
        int later = desk.inject(1, 0, 9, -1, 1);
        check.due(TERM + ": round of a child of 9 alone", desk.event(later, 3), desk.event(9, 3));
    }

    private static void witnesses() {
        Desk desk = Runs.inTurn(5);
        check.due(TERM + ": no self-parent", desk.event(0, 4), 1);
        check.due(TERM + ": one of the same round", desk.event(2, 4), 0);
        check.due(TERM + ": one of a lesser round", desk.event(3, 4), 1);
        check.due(TERM + ": one of a lesser round, by the other-parent", desk.event(4, 4), 1);
        int child = desk.inject(1, 0, 3, -1, 5);
        check.due(TERM + ": a child of a witness, of its round", desk.event(child, 4), 0);
        check.due(TERM + ": its round", desk.event(child, 3), 2);
    }

    /** Each of the ballots that are asked for answers as due, and there is one. */
    private static void dueOfAll(String what, Predicate<Ballot> asked, Predicate<Ballot> due) {
        int some = 0;
        for (Ballot ballot : ballots) {
            if (asked.test(ballot)) {
                check.isTrue(TERM + ": " + what + ": " + ballot, due.test(ballot));
                some++;
            }
        }
        check.isTrue(TERM + ": " + what + " came up", some > 0);
    }

    private static boolean isPlain(Ballot b) {
        return b.distance > 1 && !b.isCoin();
    }


    private static int most(Ballot b) {
        return Math.max(b.yes, b.no);
    }

    private static void voteOneRoundAbove() {
        dueOfAll("one round above, seen", b -> b.distance == 1 && b.isSeen, b -> b.vote == 1);
        dueOfAll("one round above, not seen", b -> b.distance == 1 && !b.isSeen, b -> b.vote == 0);
    }

    private static void voteOfHalf() {
        dueOfAll("half are yes", b -> isPlain(b) && b.yes == b.no && b.yes > 0, b -> b.vote == 1);
        dueOfAll("one less than half are yes", b -> isPlain(b) && b.yes + 1 == b.no && b.yes > 0, b -> !b.isYes());
        dueOfAll("one more than half are yes", b -> isPlain(b) && b.yes == b.no + 1 && b.no > 0, Ballot::isYes);
    }

    private static void voteOfNone() {
        dueOfAll("there are none", b -> isPlain(b) && b.yes + b.no == 0, b -> b.vote == 1);
        dueOfAll("a coin of none", b -> b.isCoin() && b.yes + b.no == 0, b -> b.vote == (b.isHighBitSet ? 1 : 0));
        dueOfAll("a coin of none that is yes", b -> b.isCoin() && b.yes + b.no == 0 && b.isHighBitSet, Ballot::isYes);
        dueOfAll("a coin of none that is no", b -> b.isCoin() && b.yes + b.no == 0 && !b.isHighBitSet,
                b -> !b.isYes());
    }

    /** Of six nodes four are two thirds, and not more. */
    private static void votesThatAreJustTooFew() {
        for (int nodes = 4; nodes <= 8; nodes++) {
            int n = nodes;
            dueOfAll("just too few of " + n, b -> b.n == n && isPlain(b) && most(b) == Ballot.tooFew(n),
                    b -> !b.decides() && b.isYes() == b.yes >= b.no);
        }
        dueOfAll("four of six are yes", b -> b.n == 6 && isPlain(b) && b.yes == 4, b -> b.vote == 1);
        dueOfAll("four of six are no", b -> b.n == 6 && isPlain(b) && b.no == 4 && b.yes < 4, b -> b.vote == 0);
    }

    private static void votesThatAreJustEnough() {
        for (int nodes = 2; nodes <= 8; nodes++) {
            int n = nodes;
            int enough = Ballot.tooFew(n) + 1;
            dueOfAll("just enough of " + n + " are yes", b -> b.n == n && isPlain(b) && b.yes == enough,
                    b -> b.vote == 3);
            dueOfAll("just enough of " + n + " are no", b -> b.n == n && isPlain(b) && b.no == enough,
                    b -> b.vote == 2);
        }
    }

    /** The vote is that of the many though the bit of the hash says the other. */
    private static void coinsThatAreClear() {
        dueOfAll("a clear yes against the bit", b -> isClearCoin(b) && b.yes > b.no && !b.isHighBitSet,
                b -> b.vote == 1);
        dueOfAll("a clear no against the bit", b -> isClearCoin(b) && b.no > b.yes && b.isHighBitSet,
                b -> b.vote == 0);
        dueOfAll("a coin with just enough", b -> b.isCoin() && most(b) == Ballot.tooFew(b.n) + 1,
                b -> b.isYes() == b.yes > b.no);
    }

    private static boolean isClearCoin(Ballot b) {
        return b.isCoin() && most(b) > Ballot.tooFew(b.n);
    }

    /** Just too few: the bit says it, against the many, too. */
    private static void coinsThatAreTossed() {
        dueOfAll("a coin with just too few", b -> b.isCoin() && most(b) == Ballot.tooFew(b.n),
                b -> b.vote == (b.isHighBitSet ? 1 : 0));
        dueOfAll("four of six are yes, the bit is 0", b -> b.n == 6 && b.isCoin() && b.yes == 4 && !b.isHighBitSet,
                b -> b.vote == 0);
        dueOfAll("most are no, the bit is 1", b -> b.isCoin() && !isClearCoin(b) && b.no > b.yes && b.isHighBitSet,
                b -> b.vote == 1);
        dueOfAll("most are yes, the bit is 0", b -> b.isCoin() && !isClearCoin(b) && b.yes > b.no && !b.isHighBitSet,
                b -> b.vote == 0);
    }

    private static void coinsDecideNothing() {
        for (int rounds = 4; rounds <= 12; rounds += 4) {
            int distance = rounds;
            dueOfAll("a coin after " + distance, b -> b.distance == distance, b -> !b.decides());
        }
        dueOfAll("all votes on a coin are yes", b -> b.isCoin() && b.no == 0 && b.yes == b.n, b -> b.vote == 1);
    }

    private static void roundsBesideTheCoin() {
        for (int rounds : new int[] {2, 3, 5, 6, 7, 9, 10, 11, 13}) {
            dueOfAll("enough after " + rounds, b -> b.distance == rounds && most(b) > Ballot.tooFew(b.n),
                    b -> b.vote == (b.yes > b.no ? 3 : 2));
        }
    }

    /** "A vote is looked at though x was decided before". */
    private static void votesThoughDecidedBefore() {
        Desk desk = Runs.inTurn(60);
        check.due(TERM + ": decided by round 3", desk.vote(5, 0), 3);
        check.due(TERM + ": and by round 4", desk.vote(7, 0), 3);
        check.due(TERM + ": looked at by round 5", desk.vote(9, 0), 1);
        check.due(TERM + ": decided by round 30", desk.vote(59, 0), 3);
    }
}
