import java.util.ArrayList;
import java.util.List;

/** Gossip at random, of a seed and a style, on a desk and the model at once. */
final class Gossip {
    static final int STYLES = 6;
    static final int HONEST = 0;
    static final int TWO_HALVES = 1;
    static final int ONE_SELDOM = 2;
    static final int MANY_FORKS = 3;
    static final int ALIKE = 4;
    static final int TWO_WORLDS = 5;
    // The calls of one object, and what is asked of it, must stay below 512.
    private static final int MOST_CHANGES = 430;

    final Both both;
    private final Check check;
    private final String name;
    private final int n;
    private final int style;
    private final int lastEvents;
    private final int[] lastOfTwin;
    private long seed;
    private int changes;

    Gossip(Check check, String name, int style, long seed, int lastEvents, Both both) {
        this.check = check;
        this.name = name;
        this.style = style;
        this.seed = seed;
        this.lastEvents = lastEvents;
        this.both = both;
        n = both.n;
        lastOfTwin = new int[n];
        for (int node = 0; node < n; node++) {
            lastOfTwin[node] = node;
        }
    }

    /** One that goes to its end. */
    static Both whole(Check check, int n, int style, long seed, int lastEvents) {
        String name = n + " nodes, style " + style + ", seed " + seed;
        Gossip gossip = new Gossip(check, name, style, seed, lastEvents, new Both(check, name, n));
        while (!gossip.isOver()) {
            gossip.goOn();
        }
        return gossip.both;
    }

    boolean isOver() {
        return changes >= MOST_CHANGES || both.size() >= lastEvents;
    }

    int random(int bound) {
        seed = seed * 6364136223846793005L + 1442695040888963407L;
        return (int) ((seed >>> 33) % bound);
    }

    void goOn() {
        changes++;
        int what = random(20);
        if (style == TWO_WORLDS && n >= 4 && both.size() < lastEvents - 30) {
            actInTwoWorlds();
        } else if (what < 4) {
            submitOne();
        } else if (style == MANY_FORKS && what < 8) {
            injectOne();
        } else if (style == ALIKE && what < 6) {
            injectOneLikeTheNextSync();
        } else if (what == 5 && style != HONEST) {
            injectOne();
        } else {
            int from = random(n);
            both.sync(from, partnerOf(from), time());
        }
    }

    /** Node 0 hears of all first ones and then makes a second life of all the others, unknown to them at first. */
    private void actInTwoWorlds() {
        int creator = 1 + random(n - 1);
        int partner = 1 + (creator - 1 + 1 + random(n - 2)) % (n - 1);
        if (both.size() < 2 * n - 1) {
            both.sync(both.size() - n + 1, 0, time());
        } else if (random(6) == 0) {
            submitOne();
        } else if (random(2) == 0) {
            both.sync(partner, creator, time());
        } else {
            int made = inject(0, creator, lastOfTwin[creator], lastOfTwin[partner], time());
            lastOfTwin[creator] = made >= 0 ? made : lastOfTwin[creator];
        }
    }

    private void submitOne() {
        int node = random(n);
        int to = random(n);
        int amount = random(3) == 0 ? 1000000 : random(1000001);
        if (both.model.waiting.get(node).size() == 8) {
            check.outOfBounds(name + ": submit where 8 wait", () -> both.desk.submit(node, to, amount));
        } else {
            both.submit(node, to, amount);
        }
    }

    private int partnerOf(int from) {
        int to = (from + 1 + random(n - 1)) % n;
        boolean isRare = style == TWO_HALVES && (from < n / 2) != (to < n / 2)
                || style == ONE_SELDOM && (from == 0 || to == 0);
        return isRare && random(8) != 0 ? (from + 1 + random(n - 1)) % n : to;
    }

    private long time() {
        return random(3) == 0 ? changes * 3L : (random(40) == 0 ? Long.MIN_VALUE : random(50) - 25L);
    }

    private void injectOne() {
        int node = random(n);
        int creator = (node + 1 + random(n - 1)) % n;
        List<Integer> selves = new ArrayList<>();
        List<Integer> others = new ArrayList<>();
        others.add(-1);
        for (Model.Event e : both.model.events) {
            if (both.model.held.get(node).contains(e)) {
                (e.creator == creator ? selves : others).add(e.number);
            }
        }
        if (!selves.isEmpty()) {
            int nearEnd = random(2) == 0 ? selves.size() : Math.min(3, selves.size());
            int self = selves.get(selves.size() - 1 - random(nearEnd));
            inject(node, creator, self, others.get(others.size() - 1 - random(others.size())), random(2));
        }
    }

    private int inject(int node, int creator, int self, int other, long time) {
        if (both.model.isThere(creator, self, other, time)) {
            check.illegalState(name + ": inject of what is there",
                    () -> both.desk.inject(node, creator, self, other, time));
            return -1;
        }
        return both.inject(node, creator, self, other, time);
    }

    private void injectOneLikeTheNextSync() {
        int from = random(n);
        int to = partnerOf(from);
        int self = lastHeldBy(from, to);
        int other = lastHeldBy(from, from);
        if (self >= 0 && both.size() < lastEvents - 2) {
            long time = time();
            inject(from, to, self, other, time);
            both.sync(from, to, time);
            changes++;
        }
    }

    private int lastHeldBy(int node, int creator) {
        int last = -1;
        for (Model.Event e : both.model.held.get(node)) {
            if (e.creator == creator && e.number > last) {
                last = e.number;
            }
        }
        return last;
    }
}
