import java.util.List;

/** Term 3, what a node finds: who is decided, famous and unique, settled rounds, receipt, stamps and the order. */
public final class Term3Test {
    private static final String TERM = "term 3 (promises 10 to 15)";
    private static final int HOLDER = 3;

    private static final Check check = new Check();

    /** Nodes 0, 1 and 2 of four, in a life that node 3 makes for them: a ring that begins with their first events. */
    private static final class Life {
        private final Desk desk;
        private final long time;
        private final int[] last = {0, 1, 2};
        private int speaker;

        Life(Desk desk, long time) {
            this.desk = desk;
            this.time = time;
        }

        int speak() {
            int from = speaker;
            speaker = (speaker + 1) % 3;
            last[speaker] = desk.inject(HOLDER, speaker, last[speaker], last[from], time + desk.count(1));
            return last[speaker];
        }

        /** Goes on until its first event of a round. */
        int speakToRound(int round) {
            int made = speak();
            for (int step = 0; step < 60 && desk.event(made, 3) < round; step++) {
                made = speak();
            }
            check.due(TERM + ": round of " + made, desk.event(made, 3), round);
            check.due(TERM + ": witness " + made, desk.event(made, 4), 1);
            return made;
        }

        void hearOf(int creator, int other) {
            last[creator] = desk.inject(HOLDER, creator, last[creator], other, time + desk.count(1));
        }
    }

    public static void main(String[] args) {
        leastNumberOfARound();
        leastRoundBeforeLeastNumber();
        onlyByOneThatIsHeld();
        uniqueBesideOneThatIsNotFamous();
        noRoundIsSettledAtFirst();
        settledWhenAllBeforeAre();
        receivedWhenAllUniqueOnesHaveIt();
        stampsBehindHalf();
        firstOfAChain();
        orderByRoundStampAndHash();
        timesFarApart();
        check.finish();
    }

    private static Desk deskOfTheHolder() {
        Desk desk = new Desk(4);
        for (int node = 0; node < HOLDER; node++) {
            desk.sync(node, HOLDER, 1);
        }
        return desk;
    }

    private static void dueFame(Desk desk, int node, int x, int due) {
        check.due(TERM + ": found(" + node + ", " + x + ", 1)", desk.found(node, x, 1), due);
    }

    /** Two lives, each of which knows nothing of the other: of two deciders of round 4 the one made first tells. */
    private static void leastNumberOfARound() {
        Desk desk = deskOfTheHolder();
        Life first = new Life(desk, 100);
        Life second = new Life(desk, 500);
        int ofFirst = first.speakToRound(2);
        int ofSecond = second.speakToRound(2);
        dueFame(desk, HOLDER, ofFirst, 0);
        int deciderOfFirst = first.speakToRound(4);
        dueFame(desk, HOLDER, ofFirst, 3);
        dueFame(desk, HOLDER, ofSecond, 1);
        int deciderOfSecond = second.speakToRound(4);
        check.due(TERM + ": the first one's own", desk.vote(deciderOfFirst, ofFirst), 3);
        check.due(TERM + ": the first one's other", desk.vote(deciderOfFirst, ofSecond), 2);
        check.due(TERM + ": the second one's own", desk.vote(deciderOfSecond, ofSecond), 3);
        check.due(TERM + ": the second one's other", desk.vote(deciderOfSecond, ofFirst), 2);
        dueFame(desk, HOLDER, ofFirst, 3);
        dueFame(desk, HOLDER, ofSecond, 1);
    }

    /**
     * Event 3 is heard of by two of three when round 2 comes: round 3 does not decide it, round 4 decides it to be yes.
     * Another life, made later, hears nothing of it: there round 3 decides it to be no.
     */
    private static void leastRoundBeforeLeastNumber() {
        Desk desk = deskOfTheHolder();
        Life first = new Life(desk, 100);
        Life second = new Life(desk, 500);
        first.speakToRound(2);
        first.hearOf(2, 3);
        int undecided = first.speakToRound(3);
        check.due(TERM + ": two of three are not enough", desk.vote(undecided, 3), 1);
        dueFame(desk, HOLDER, 3, 0);
        int later = first.speakToRound(4);
        check.due(TERM + ": round 4 decides", desk.vote(later, 3), 3);
        dueFame(desk, HOLDER, 3, 3);
        desk.sync(HOLDER, 2, 900);
        dueFame(desk, 2, 3, 3);
        int lesser = second.speakToRound(3);
        check.isTrue(TERM + ": it was made later", lesser > later);
        check.due(TERM + ": round 3 decides", desk.vote(lesser, 3), 2);
        dueFame(desk, HOLDER, 3, 1);
        dueFame(desk, 2, 3, 3);
        desk.sync(HOLDER, 2, 901);
        dueFame(desk, 2, 3, 1);
    }

    private static void onlyByOneThatIsHeld() {
        Desk desk = deskOfTheHolder();
        Life life = new Life(desk, 100);
        int witness = life.speakToRound(2);
        life.speakToRound(3);
        desk.sync(HOLDER, 0, 900);
        life.speakToRound(4);
        dueFame(desk, HOLDER, witness, 3);
        dueFame(desk, 0, witness, 0);
        dueFame(desk, 1, witness, 0);
        desk.sync(HOLDER, 0, 901);
        dueFame(desk, 0, witness, 3);
    }

    /** One of the same creator and round that is not famous does not count; TwinTest has two that are. */
    private static void uniqueBesideOneThatIsNotFamous() {
        Desk desk = deskOfTheHolder();
        Life first = new Life(desk, 100);
        Life second = new Life(desk, 500);
        int ofFirst = first.speakToRound(2);
        int ofSecond = second.speakToRound(2);
        check.due(TERM + ": of one creator", desk.event(ofFirst, 0), desk.event(ofSecond, 0));
        check.due(TERM + ": a fork", desk.found(HOLDER, ofFirst, 1), 0);
        first.speakToRound(4);
        second.speakToRound(5);
        dueFame(desk, HOLDER, ofFirst, 3);
        dueFame(desk, HOLDER, ofSecond, 1);
        check.isTrue(TERM + ": rounds are settled by the first life", desk.order(HOLDER) > 0);
    }

    private static void noRoundIsSettledAtFirst() {
        for (int n = 2; n <= 8; n++) {
            Desk desk = new Desk(n);
            check.due(TERM + ": of " + n, desk.count(4), 0);
            for (int node = 1; node < n; node++) {
                desk.sync(node, 0, 1);
            }
            check.due(TERM + ": of " + n + " with all first events", desk.count(4), 0);
            check.due(TERM + ": the order", desk.order(0), 0);
        }
    }

    /** A round that is wholly decided, with unique ones, is not settled while one before it is not decided. */
    private static void settledWhenAllBeforeAre() {
        int blocked = 0;
        for (int[] run : new int[][] {{8, Gossip.HONEST, 24}, {4, Gossip.HONEST, 20}, {5, Gossip.TWO_HALVES, 23}}) {
            Both both = Gossip.whole(check, run[0], run[1], run[2], 160);
            both.compareNode(0);
            both.compareCounts();
            boolean isOpen = false;
            int settled = 0;
            for (int round = 1; round <= both.desk.count(2); round++) {
                int[] fames = famesOf(both.desk, round);
                isOpen |= fames[0] > 0;
                boolean isDecided = fames[0] == 0 && fames[3] > 0;
                settled += isDecided && !isOpen ? 1 : 0;
                blocked += isDecided && isOpen ? 1 : 0;
            }
            check.due(TERM + ": settled rounds", both.desk.count(4), settled);
        }
        check.isTrue(TERM + ": decided rounds above one that is not", blocked > 2);
    }

    private static int[] famesOf(Desk desk, int round) {
        int[] fames = new int[4];
        for (int x = 0; x < desk.count(1); x++) {
            if (desk.event(x, 4) == 1 && desk.event(x, 3) == round && desk.found(0, x, 0) == 1) {
                fames[desk.found(0, x, 1)]++;
            }
        }
        return fames;
    }

    /** Node 2 is heard late: its first event waits until all unique ones of a settled round have it. */
    private static void receivedWhenAllUniqueOnesHaveIt() {
        int late = 0;
        for (int seed = 1; seed <= 6; seed++) {
            Both both = Gossip.whole(check, 4, Gossip.ONE_SELDOM, seed, 120);
            for (int node = 0; node < 4; node++) {
                both.compareNode(node);
                Model.Finding finding = both.model.new Finding(node);
                for (Model.Event x : finding.order) {
                    for (int round : finding.settled) {
                        if (round < finding.received.get(x)) {
                            late += someButNotAll(x, finding.uniques.get(round)) ? 1 : 0;
                        }
                    }
                }
            }
        }
        check.isTrue(TERM + ": some unique ones of a settled round have it, not all", late > 0);
    }

    private static boolean someButNotAll(Model.Event x, List<Model.Event> uniques) {
        int some = 0;
        for (Model.Event u : uniques) {
            some += u.ancestors.contains(x) ? 1 : 0;
        }
        return some > 0 && some < uniques.size();
    }

    /** Of 2 to 8 unique ones; each time the one before and the one behind tell another time in some event. */
    private static void stampsBehindHalf() {
        boolean[] differsFromBefore = new boolean[9];
        boolean[] differsFromNext = new boolean[9];
        for (int n = 2; n <= 8; n++) {
            for (int seed = 1; seed <= 3; seed++) {
                Both both = Gossip.whole(check, n, Gossip.HONEST, seed, 150);
                Model.Finding finding = both.model.new Finding(n - 1);
                for (Model.Event x : finding.order) {
                    List<Long> times = finding.timesOf(x, finding.uniques.get(finding.received.get(x)));
                    int some = times.size();
                    long due = times.get(some / 2);
                    check.due(TERM + ": one of " + some + " times", both.desk.stamp(n - 1, x.number), due);
                    differsFromBefore[some] |= times.get(some / 2 - 1) != due;
                    differsFromNext[some] |= some > 2 && times.get(some / 2 + 1) != due;
                }
            }
        }
        for (int some = 2; some <= 8; some++) {
            check.isTrue(TERM + ": one before half of " + some, differsFromBefore[some]);
            check.isTrue(TERM + ": one behind half of " + some, differsFromNext[some] || some == 2);
        }
    }

    /**
     * Two nodes, of whom node 0 makes six children in a row before node 1 hears of it: "going on as long as the
     * self-parent has it, too", down to the first event, which has no self-parent.
     */
    private static void firstOfAChain() {
        Both both = new Both(check, TERM, 2);
        for (int k = 0; k < 6; k++) {
            both.sync(1, 0, 100 + k);
        }
        for (int k = 0; k < 20; k++) {
            both.sync(k % 2, 1 - k % 2, 200 + k);
        }
        both.compareNodes();
        check.due(TERM + ": 0 has itself at time 0, node 1 at 200", both.desk.stamp(0, 0), 200);
        check.due(TERM + ": 1 is heard of at 100", both.desk.stamp(0, 1), 100);
        check.due(TERM + ": 2 is at 100, node 1 hears of it at 200", both.desk.stamp(0, 2), 200);
    }

    /** Each event stands behind the one before by round, else stamp, else turned hash; each of them tells somewhere. */
    private static void orderByRoundStampAndHash() {
        int[] told = new int[5];
        for (int n = 2; n <= 8; n++) {
            Both both = Gossip.whole(check, n, Gossip.MANY_FORKS, 5, 150);
            Desk desk = both.desk;
            for (int k = 1; k < desk.order(0); k++) {
                compareNeighbours(desk, desk.at(0, k - 1), desk.at(0, k), told);
            }
        }
        check.isTrue(TERM + ": a lesser round before a greater, in spite of the stamp", told[0] > 0);
        check.isTrue(TERM + ": a lesser stamp before a greater, in spite of the number", told[1] > 0);
        check.isTrue(TERM + ": a stamp below zero before one above", told[2] > 0);
        check.isTrue(TERM + ": the turned hash, in spite of the bare one", told[3] > 0);
        check.isTrue(TERM + ": the turned hash without sign", told[4] > 0);
    }

    private static void compareNeighbours(Desk desk, int x, int y, int[] told) {
        int round = desk.found(0, y, 2);
        long stampOfX = desk.stamp(0, x);
        long stampOfY = desk.stamp(0, y);
        if (desk.found(0, x, 2) != round) {
            check.isTrue(TERM + ": rounds rise", desk.found(0, x, 2) < round);
            told[0] += stampOfX > stampOfY ? 1 : 0;
        } else if (stampOfX != stampOfY) {
            check.isTrue(TERM + ": stamps rise", stampOfX < stampOfY);
            told[1] += x > y ? 1 : 0;
            told[2] += stampOfX < 0 && stampOfY > 0 ? 1 : 0;
        } else {
            int turn = turnOf(desk, round);
            int turnedX = desk.hash(x, 0) ^ turn;
            int turnedY = desk.hash(y, 0) ^ turn;
            check.isTrue(TERM + ": turned hashes rise", Integer.compareUnsigned(turnedX, turnedY) < 0);
            told[3] += Integer.compareUnsigned(desk.hash(x, 0), desk.hash(y, 0)) > 0 ? 1 : 0;
            told[4] += turnedX > turnedY ? 1 : 0;
        }
    }

    private static int turnOf(Desk desk, int round) {
        int turn = 0;
        for (int u = 0; u < desk.count(1); u++) {
            turn ^= desk.event(u, 3) == round && desk.found(0, u, 1) == 3 ? desk.hash(u, 0) : 0;
        }
        return turn;
    }

    /** The least long before the greatest: their difference wraps around. */
    private static void timesFarApart() {
        Both both = new Both(check, TERM, 2);
        long[] times = {Long.MAX_VALUE, Long.MIN_VALUE, Long.MIN_VALUE, Long.MIN_VALUE, 0, 0, 0, 0, 0, 0};
        for (int k = 2; k < 12; k++) {
            both.sync(k % 2, 1 - k % 2, times[k - 2]);
        }
        Desk desk = both.desk;
        check.due(TERM + ": stamp of 3", desk.stamp(0, 3), Long.MIN_VALUE);
        check.due(TERM + ": stamp of 2", desk.stamp(0, 2), Long.MAX_VALUE);
        check.due(TERM + ": they are received in one round", desk.found(0, 2, 2), desk.found(0, 3, 2));
        check.isTrue(TERM + ": the least before the greatest", desk.found(0, 3, 3) < desk.found(0, 2, 3));
        both.compareNodes();
    }
}
