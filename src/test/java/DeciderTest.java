/**
 * Promise 10: of several witnesses that decide, the one of the least round tells, even if another was made before it.
 * Five nodes speak, and node 0 is heard so late that its first event is decided by round 5 or later. Then node 0 gets
 * a second life of the other four, made later, that knows nothing of it: there round 3 decides it to be no.
 */
public final class DeciderTest {
    private static final int NODES = 5;
    private static final int LATE = 0;

    private static final Check check = new Check();
    private static int seed;
    private static int contradictions;

    public static void main(String[] args) {
        for (int run = 1; run <= 60; run++) {
            seed = run;
            go(run);
        }
        System.out.println("  runs with deciders that contradict: " + contradictions);
        check.isTrue("deciders that contradict came up", contradictions > 0);
        check.finish();
    }

    private static int random(int bound) {
        seed = seed * 1103515245 + 12345;
        return (seed >>> 12) % bound;
    }

    private static void go(int run) {
        HashgraphDesk desk = new HashgraphDesk();
        desk.begin(NODES);
        Model model = new Model(NODES);
        for (int k = 0; k < 90; k++) {
            boolean isWithNode0 = random(8) == 0;
            int from = isWithNode0 ? 0 : 1 + random(NODES - 1);
            int to = isWithNode0 ? 1 + random(NODES - 1) : 1 + (from + random(NODES - 2)) % (NODES - 1);
            check.due("sync", desk.sync(from, to, k), model.sync(from, to, k));
        }
        for (int from = 1; from < NODES; from++) {
            check.due("sync", desk.sync(from, 0, 90), model.sync(from, 0, 90));
        }
        compareFame(run, desk, model);
        int[] last = {0, 1, 2, 3, 4};
        for (int k = 0; k < 60; k++) {
            int creator = 1 + k % 4;
            int other = last[1 + (k + 3) % 4];
            int made = desk.inject(0, creator, last[creator], other, 100 + k);
            check.due("inject", made, model.inject(0, creator, last[creator], other, 100 + k));
            last[creator] = made;
        }
        compareFame(run, desk, model);
        noteContradiction(desk);
    }

    private static void compareFame(int run, HashgraphDesk desk, Model model) {
        for (Model.Event x : model.events) {
            check.due("run " + run + ": found(0, " + x.number + ", 1)", desk.found(0, x.number, 1), model.fame(0, x));
        }
    }

    private static void noteContradiction(HashgraphDesk desk) {
        int first = -1;
        int ofLeastRound = -1;
        for (int y = 0; y < desk.count(1); y++) {
            if (desk.event(y, 4) == 1 && desk.event(y, 3) > 1 && desk.vote(y, LATE) >= 2) {
                first = first < 0 ? y : first;
                boolean isLess = ofLeastRound < 0 || desk.event(y, 3) < desk.event(ofLeastRound, 3);
                ofLeastRound = isLess ? y : ofLeastRound;
            }
        }
        if (first >= 0 && desk.vote(first, LATE) != desk.vote(ofLeastRound, LATE)) {
            contradictions++;
            check.due("it is decided by the least round", desk.found(0, LATE, 1),
                    desk.vote(ofLeastRound, LATE) == 3 ? 3 : 1);
        }
    }
}
