/**
 * Promise 10: of several witnesses that decide, the one of the least round tells, even if another was made before it.
 * Five nodes speak, and node 0 is heard so late that its first event is decided by round 5 or later. Then node 0 gets
 * a second life of the other four, made later, that knows nothing of it: there round 3 decides it to be no.
 */
public final class DeciderTest {
    private static final int NODES = 5;
    private static final int LATE = 0;

    private static final Check check = new Check();
    private static int seed;
    private static int contradictions;

    public static void main(String[] args) {
        for (int run = 1; run <= 60; run++) {
            seed = run;
            go(run);
        }
        System.out.println("  runs with deciders that contradict: " + contradictions);
        check.isTrue("deciders that contradict came up", contradictions > 0);
        check.finish();
    }

    private static int random(int bound) {
        seed = seed * 1103515245 + 12345;
        return (seed >>> 12) % bound;
    }

    private static void go(int run) {
        Both both = new Both(check, "promise 10, run " + run, NODES);
        for (int k = 0; k < 90; k++) {
            boolean isWithNode0 = random(8) == 0;
            int from = isWithNode0 ? 0 : 1 + random(NODES - 1);
            int to = isWithNode0 ? 1 + random(NODES - 1) : 1 + (from + random(NODES - 2)) % (NODES - 1);
            both.sync(from, to, k);
        }
        for (int from = 1; from < NODES; from++) {
            both.sync(from, 0, 90);
        }
        both.compareNode(0);
        int[] last = {0, 1, 2, 3, 4};
        for (int k = 0; k < 60; k++) {
            int creator = 1 + k % 4;
            last[creator] = both.inject(0, creator, last[creator], last[1 + (k + 3) % 4], 100 + k);
        }
        both.compareNode(0);
        noteContradiction(both.desk);
    }

    private static void noteContradiction(Desk desk) {
        int first = -1;
        int ofLeastRound = -1;
        for (int y = 0; y < desk.count(1); y++) {
            if (desk.event(y, 4) == 1 && desk.event(y, 3) > 1 && desk.vote(y, LATE) >= 2) {
                first = first < 0 ? y : first;
                boolean isLess = ofLeastRound < 0 || desk.event(y, 3) < desk.event(ofLeastRound, 3);
                ofLeastRound = isLess ? y : ofLeastRound;
            }
        }
        if (first >= 0 && desk.vote(first, LATE) != desk.vote(ofLeastRound, LATE)) {
            contradictions++;
            check.due("promise 10: it is decided by the least round", desk.found(0, LATE, 1),
                    desk.vote(ofLeastRound, LATE) == 3 ? 3 : 1);
        }
    }
}
