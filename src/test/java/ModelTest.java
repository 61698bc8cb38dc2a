import java.util.ArrayList;
import java.util.Arrays;
import java.util.List;

/** Long runs of gossip, with forks and without, in which every answer of the program is compared with the model's. */
public final class ModelTest {
    private static final int RUNS = 96;
    private static final int MOST_EVENTS = 240;

    private static final Check check = new Check();
    private static long seed;

    private static int clearCoins;
    private static int tossedCoins;
    private static int votesWithoutElectors;
    private static int forks;
    private static int alike;
    private static int deniedWitnesses;
    private static int equalStamps;
    private static int refusedPayments;

    private final String name;
    private final int n;
    private final int style;
    private final int[] lastOfTwin;
    private final HashgraphDesk desk;
    private final Model model;

    private ModelTest(int run, HashgraphDesk desk) {
        n = 2 + run % 7;
        style = run / 7 % 6;
        lastOfTwin = new int[n];
        for (int node = 0; node < n; node++) {
            lastOfTwin[node] = node;
        }
        name = "run " + run + " (" + n + " nodes, style " + style + "): ";
        this.desk = desk;
        desk.begin(n);
        model = new Model(n);
    }

    public static void main(String[] args) {
        HashgraphDesk desk = new HashgraphDesk();
        for (int run = 0; run < RUNS; run++) {
            seed = 1000 + run;
            new ModelTest(run, run % 2 == 0 ? new HashgraphDesk() : desk).go();
        }
        tellAndCheckThatRareThingsCameUp();
        check.finish();
    }

    private static void tellAndCheckThatRareThingsCameUp() {
        System.out.println("  coins: " + clearCoins + " clear, " + tossedCoins + " tossed; votes without electors: "
                + votesWithoutElectors + "; forks: " + forks + "; hashes alike: " + alike
                + "; witnesses not famous: " + deniedWitnesses + "; equal stamps: " + equalStamps
                + "; runs with payments refused: " + refusedPayments);
        check.isTrue("clear coins came up", clearCoins > 0);
        check.isTrue("tossed coins came up", tossedCoins > 0);
        check.isTrue("votes without electors came up", votesWithoutElectors > 0);
        check.isTrue("forks came up", forks > 0);
        check.isTrue("hashes alike came up", alike > 0);
        check.isTrue("witnesses that are not famous came up", deniedWitnesses > 0);
        check.isTrue("equal stamps came up", equalStamps > 0);
        check.isTrue("refused payments came up", refusedPayments > 0);
    }

    private static int random(int bound) {
        seed = seed * 6364136223846793005L + 1442695040888963407L;
        return (int) ((seed >>> 33) % bound);
    }

    private void go() {
        int last = 60 + random(MOST_EVENTS - 60);
        for (int step = 0; step < 2000 && model.events.size() < last; step++) {
            if (style == 5 && n >= 4 && model.events.size() < last - 30) {
                actInTwoWorlds(step);
            } else {
                act(step);
            }
            if (random(12) == 0) {
                compareOneNode(random(n));
            }
            if (random(60) == 0) {
                compareGraph();
            }
        }
        compareGraph();
        for (int node = 0; node < n; node++) {
            compareOneNode(node);
        }
        compareCounts();
        noteRareThings();
    }

    private void act(int step) {
        int what = random(20);
        if (what < 4) {
            submitOne();
        } else if (style == 3 && what < 8) {
            injectOne();
        } else if (style == 4 && what < 6) {
            injectOneLikeTheNextSync(step);
        } else if (what == 5 && style != 0) {
            injectOne();
        } else {
            syncOne(step);
        }
    }

    /** Node 0 hears of all first ones and then makes a second life of all the others, unknown to them at first. */
    private void actInTwoWorlds(int step) {
        int creator = 1 + random(n - 1);
        int partner = 1 + (creator - 1 + 1 + random(n - 2)) % (n - 1);
        if (model.events.size() < 2 * n - 1) {
            sync(model.events.size() - n + 1, 0, timeOf(step));
        } else if (random(6) == 0) {
            submitOne();
        } else if (random(2) == 0) {
            sync(partner, creator, timeOf(step));
        } else {
            int made = inject(0, creator, lastOfTwin[creator], lastOfTwin[partner], timeOf(step));
            lastOfTwin[creator] = made >= 0 ? made : lastOfTwin[creator];
        }
    }

    private void submitOne() {
        int node = random(n);
        int to = random(n);
        int amount = random(3) == 0 ? 1000000 : random(1000001);
        if (model.waiting.get(node).size() == 8) {
            check.outOfBounds(name + "submit to a node where 8 wait", () -> desk.submit(node, to, amount));
        } else {
            check.due(name + "submit", desk.submit(node, to, amount), model.submit(node, to, amount));
        }
    }

    /** Style 1: two halves that seldom speak; style 2: one node hears and is heard seldom. */
    private int partnerOf(int from) {
        int to = (from + 1 + random(n - 1)) % n;
        boolean isRare = style == 1 && (from < n / 2) != (to < n / 2) || style == 2 && (from == 0 || to == 0);
        return isRare && random(8) != 0 ? (from + 1 + random(n - 1)) % n : to;
    }

    private long timeOf(int step) {
        return random(3) == 0 ? step * 3L : (random(40) == 0 ? Long.MIN_VALUE : random(50) - 25L);
    }

    private void syncOne(int step) {
        int from = random(n);
        sync(from, partnerOf(from), timeOf(step));
    }

    private void sync(int from, int to, long time) {
        check.due(name + "sync", desk.sync(from, to, time), model.sync(from, to, time));
    }

    private void injectOne() {
        int node = random(n);
        int creator = (node + 1 + random(n - 1)) % n;
        List<Integer> selves = new ArrayList<>();
        List<Integer> others = new ArrayList<>();
        others.add(-1);
        for (Model.Event e : model.events) {
            if (model.held.get(node).contains(e)) {
                (e.creator == creator ? selves : others).add(e.number);
            }
        }
        if (!selves.isEmpty()) {
            int nearEnd = random(2) == 0 ? selves.size() : Math.min(3, selves.size());
            int self = selves.get(selves.size() - 1 - random(nearEnd));
            inject(node, creator, self, others.get(others.size() - 1 - random(others.size())), random(2));
        }
    }

    private int inject(int node, int creator, int self, int other, long time) {
        if (model.isThere(creator, self, other, time)) {
            check.illegalState(name + "inject of what is there", () -> desk.inject(node, creator, self, other, time));
            return -1;
        }
        int made = model.inject(node, creator, self, other, time);
        check.due(name + "inject", desk.inject(node, creator, self, other, time), made);
        return made;
    }

    private void injectOneLikeTheNextSync(int step) {
        int from = random(n);
        int to = partnerOf(from);
        int self = lastHeldBy(from, to);
        int other = lastHeldBy(from, from);
        if (self >= 0 && model.events.size() < MOST_EVENTS - 2) {
            long time = timeOf(step);
            inject(from, to, self, other, time);
            sync(from, to, time);
        }
    }

    private int lastHeldBy(int node, int creator) {
        int last = -1;
        for (Model.Event e : model.held.get(node)) {
            if (e.creator == creator && e.number > last) {
                last = e.number;
            }
        }
        return last;
    }

    private void compareCounts() {
        int waiting = 0;
        for (List<int[]> queue : model.waiting) {
            waiting += queue.size();
        }
        check.due(name + "count(0)", desk.count(0), n);
        check.due(name + "count(1)", desk.count(1), model.events.size());
        check.due(name + "count(2)", desk.count(2), model.greatestRound());
        check.due(name + "count(3)", desk.count(3), model.forks());
        check.due(name + "count(4)", desk.count(4), model.new Finding(0).settled.size());
        check.due(name + "count(5)", desk.count(5), waiting);
    }

    private void compareGraph() {
        for (Model.Event x : model.events) {
            compareParts(x);
            for (Model.Event y : model.events) {
                String pair = "(" + x.number + ", " + y.number;
                check.due(name + "sees" + pair + ", false)", desk.sees(x.number, y.number, false), x.seen.contains(y));
                check.due(name + "sees" + pair + ", true)", desk.sees(x.number, y.number, true),
                        x.stronglySeen.contains(y));
                compareVote(x, y, name + "vote" + pair + ")");
            }
        }
    }

    private void compareParts(Model.Event x) {
        int holders = 0;
        for (int node = 0; node < n; node++) {
            holders += model.held.get(node).contains(x) ? 1 : 0;
        }
        int[] parts = {x.creator, Model.numberOf(x.self), Model.numberOf(x.other), x.round, x.isWitness ? 1 : 0,
            x.transactions.size(), holders, x.ancestors.size()};
        for (int what = 0; what < parts.length; what++) {
            check.due(name + "event(" + x.number + ", " + what + ")", desk.event(x.number, what), parts[what]);
        }
        for (int word = 0; word < 8; word++) {
            check.due(name + "hash(" + x.number + ", " + word + ")", desk.hash(x.number, word),
                    model.hashWord(x.number, word));
        }
    }

    private void compareVote(Model.Event y, Model.Event x, String call) {
        if (y.isWitness && x.isWitness && y.round > x.round) {
            check.due(call, desk.vote(y.number, x.number), model.vote(y, x));
        } else if (x.number < 4) {
            check.illegalArgument(call, () -> desk.vote(y.number, x.number));
        }
    }

    private void compareOneNode(int node) {
        Model.Finding finding = model.new Finding(node);
        for (Model.Event x : model.events) {
            String call = name + "found(" + node + ", " + x.number + ", ";
            check.due(call + "0)", desk.found(node, x.number, 0), model.held.get(node).contains(x) ? 1 : 0);
            check.due(call + "1)", desk.found(node, x.number, 1), finding.fame.getOrDefault(x, 0));
            check.due(call + "2)", desk.found(node, x.number, 2), finding.received.getOrDefault(x, 0));
            check.due(call + "3)", desk.found(node, x.number, 3), finding.order.indexOf(x));
            String stamp = name + "stamp(" + node + ", " + x.number + ")";
            if (finding.received.containsKey(x)) {
                check.due(stamp, desk.stamp(node, x.number), finding.stamps.get(x));
            } else {
                check.unsupported(stamp, () -> desk.stamp(node, x.number));
            }
        }
        check.due(name + "order(" + node + ")", desk.order(node), finding.order.size());
        for (int k = 0; k < finding.order.size(); k++) {
            check.due(name + "at(" + node + ", " + k + ")", desk.at(node, k), finding.order.get(k).number);
        }
        for (int account = 0; account < n; account++) {
            check.due(name + "balance(" + node + ", " + account + ")", desk.balance(node, account),
                    finding.balances[account]);
        }
    }

    private void noteRareThings() {
        clearCoins += model.clearCoins;
        tossedCoins += model.tossedCoins;
        votesWithoutElectors += model.votesWithoutElectors;
        forks += model.forks();
        for (int node = 0; node < n; node++) {
            noteRareThings(model.new Finding(node));
        }
        for (Model.Event x : model.events) {
            for (Model.Event y : model.events) {
                alike += x.number < y.number && Arrays.equals(x.hash, y.hash) ? 1 : 0;
            }
        }
    }

    private void noteRareThings(Model.Finding finding) {
        for (int fame : finding.fame.values()) {
            deniedWitnesses += fame == 1 ? 1 : 0;
        }
        int spent = 0;
        for (int k = 0; k < finding.order.size(); k++) {
            Model.Event x = finding.order.get(k);
            spent += x.transactions.size();
            if (k > 0) {
                Model.Event before = finding.order.get(k - 1);
                equalStamps += finding.received.get(x).equals(finding.received.get(before))
                        && finding.stamps.get(x).equals(finding.stamps.get(before)) ? 1 : 0;
            }
        }
        refusedPayments += spent - finding.paid > 0 ? 1 : 0;
    }
}
