import java.math.BigInteger;
import java.nio.ByteBuffer;
import java.security.MessageDigest;
import java.security.NoSuchAlgorithmException;
import java.util.ArrayList;
import java.util.Arrays;
import java.util.Collections;
import java.util.Comparator;
import java.util.HashMap;
import java.util.HashSet;
import java.util.List;
import java.util.Map;
import java.util.Set;
import java.util.TreeSet;

/**
 * The document once more, written as plainly as its words go and with nothing of the program's ways:
 * sets of events, pairs looked at one by one, the library's SHA-256. It takes right calls only: what is thrown
 * is tested by those who call it.
 */
final class Model {
    static final class Event {
        int number;
        int creator;
        Event self;
        Event other;
        long time;
        final List<int[]> transactions = new ArrayList<>();
        byte[] hash;
        final Set<Event> ancestors = new HashSet<>();
        final Set<Event> selfAncestors = new HashSet<>();
        final Set<Event> seen = new HashSet<>();
        final Set<Event> stronglySeen = new HashSet<>();
        int round;
        boolean isWitness;
    }

    private static final int YES = 1;
    private static final int DECIDES = 2;

    final int n;
    final List<Event> events = new ArrayList<>();
    final List<Set<Event>> held = new ArrayList<>();
    final List<List<int[]>> waiting = new ArrayList<>();
    private final Event[] latest;
    private final Map<Long, Integer> votes = new HashMap<>();

    // How often the rarer things came up, so that a test can see that its runs are worth something.
    int clearCoins;
    int tossedCoins;
    int votesWithoutElectors;

    Model(int n) {
        this.n = n;
        latest = new Event[n];
        for (int node = 0; node < n; node++) {
            held.add(new HashSet<>());
            waiting.add(new ArrayList<>());
            latest[node] = make(node, null, null, 0, List.of());
            held.get(node).add(latest[node]);
        }
    }

    int submit(int node, int to, int amount) {
        waiting.get(node).add(new int[] {to, amount});
        return waiting.get(node).size();
    }

    int sync(int from, int to, long time) {
        held.get(to).addAll(held.get(from));
        List<int[]> queue = waiting.get(to);
        List<int[]> taken = new ArrayList<>(queue.subList(0, Math.min(3, queue.size())));
        queue.subList(0, taken.size()).clear();
        Event made = make(to, latest[to], latest[from], time, taken);
        latest[to] = made;
        held.get(to).add(made);
        return made.number;
    }

    int inject(int node, int creator, int self, int other, long time) {
        Event made = make(creator, events.get(self), other < 0 ? null : events.get(other), time, List.of());
        held.get(node).add(made);
        return made.number;
    }

    boolean isThere(int creator, int self, int other, long time) {
        for (Event e : events) {
            if (e.creator == creator && numberOf(e.self) == self && numberOf(e.other) == other && e.time == time
                    && e.transactions.isEmpty()) {
                return true;
            }
        }
        return false;
    }

    static int numberOf(Event e) {
        return e == null ? -1 : e.number;
    }

    private Event make(int creator, Event self, Event other, long time, List<int[]> transactions) {
        Event x = new Event();
        x.number = events.size();
        x.creator = creator;
        x.self = self;
        x.other = other;
        x.time = time;
        x.transactions.addAll(transactions);
        x.hash = hashOf(x);
        x.ancestors.add(x);
        x.selfAncestors.add(x);
        for (Event parent : parentsOf(x)) {
            x.ancestors.addAll(parent.ancestors);
        }
        if (self != null) {
            x.selfAncestors.addAll(self.selfAncestors);
        }
        events.add(x);
        findSeen(x);
        findStronglySeen(x);
        findRound(x);
        return x;
    }

    private static List<Event> parentsOf(Event x) {
        List<Event> parents = new ArrayList<>();
        if (x.self != null) {
            parents.add(x.self);
        }
        if (x.other != null) {
            parents.add(x.other);
        }
        return parents;
    }

    private static byte[] hashOf(Event x) {
        ByteBuffer octets = ByteBuffer.allocate(200);
        octets.put((byte) x.creator);
        octets.put(x.self == null ? new byte[32] : x.self.hash);
        octets.put(x.other == null ? new byte[32] : x.other.hash);
        octets.putLong(x.time);
        octets.put((byte) x.transactions.size());
        for (int[] transaction : x.transactions) {
            octets.put((byte) transaction[0]);
            octets.putInt(transaction[1]);
        }
        try {
            return MessageDigest.getInstance("SHA-256").digest(Arrays.copyOf(octets.array(), octets.position()));
        } catch (NoSuchAlgorithmException e) {
            throw new AssertionError(e);
        }
    }

    int hashWord(int x, int word) {
        return ByteBuffer.wrap(events.get(x).hash).getInt(4 * word);
    }

    static boolean fork(Event a, Event b) {
        return a != b && a.creator == b.creator && !a.selfAncestors.contains(b) && !b.selfAncestors.contains(a);
    }

    int forks() {
        int forks = 0;
        for (Event a : events) {
            for (Event b : events) {
                forks += a.number < b.number && fork(a, b) ? 1 : 0;
            }
        }
        return forks;
    }

    private void findSeen(Event x) {
        Set<Integer> forkers = new HashSet<>();
        for (Event a : x.ancestors) {
            for (Event b : x.ancestors) {
                if (fork(a, b)) {
                    forkers.add(a.creator);
                }
            }
        }
        for (Event y : x.ancestors) {
            if (!forkers.contains(y.creator)) {
                x.seen.add(y);
            }
        }
    }

    private void findStronglySeen(Event x) {
        for (Event y : events) {
            Set<Integer> through = new HashSet<>();
            for (Event z : x.seen) {
                if (z.seen.contains(y)) {
                    through.add(z.creator);
                }
            }
            if (isMost(through.size())) {
                x.stronglySeen.add(y);
            }
        }
    }

    private boolean isMost(int some) {
        return some > 2.0 * n / 3.0 + 1e-9;
    }

    private void findRound(Event x) {
        if (parentsOf(x).isEmpty()) {
            x.round = 1;
        } else {
            int r = 0;
            for (Event parent : parentsOf(x)) {
                r = Math.max(r, parent.round);
            }
            Set<Integer> creators = new HashSet<>();
            for (Event y : x.stronglySeen) {
                if (y.isWitness && y.round == r) {
                    creators.add(y.creator);
                }
            }
            x.round = isMost(creators.size()) ? r + 1 : r;
        }
        x.isWitness = x.self == null || x.self.round < x.round;
    }

    int greatestRound() {
        int greatest = 0;
        for (Event e : events) {
            greatest = Math.max(greatest, e.round);
        }
        return greatest;
    }

    int vote(Event y, Event x) {
        long key = y.number * 1000L + x.number;
        Integer known = votes.get(key);
        if (known == null) {
            known = castVote(y, x);
            votes.put(key, known);
        }
        return known;
    }

    private int castVote(Event y, Event x) {
        int d = y.round - x.round;
        if (d == 1) {
            return y.seen.contains(x) ? YES : 0;
        }
        int yes = 0;
        int no = 0;
        for (Event z : events) {
            if (z.isWitness && z.round == y.round - 1 && y.stronglySeen.contains(z)) {
                if ((vote(z, x) & YES) == YES) {
                    yes++;
                } else {
                    no++;
                }
            }
        }
        int v = 2 * yes >= yes + no ? YES : 0;
        int t = v == YES ? yes : no;
        votesWithoutElectors += yes + no == 0 ? 1 : 0;
        if (d % 4 != 0) {
            return isMost(t) ? v + DECIDES : v;
        }
        if (isMost(t)) {
            clearCoins++;
            return v;
        }
        tossedCoins++;
        return (y.hash[16] & 0x80) != 0 ? YES : 0;
    }

    /** 0 not decided, 1 no, 2 famous, 3 unique. */
    int fame(int node, Event x) {
        if (!isFamous(node, x)) {
            return deciderOf(node, x) == null ? 0 : 1;
        }
        for (Event y : held.get(node)) {
            if (y != x && y.creator == x.creator && y.round == x.round && isFamous(node, y)) {
                return 2;
            }
        }
        return 3;
    }

    private boolean isFamous(int node, Event x) {
        Event decider = deciderOf(node, x);
        return decider != null && (vote(decider, x) & YES) == YES;
    }

    private Event deciderOf(int node, Event x) {
        if (!x.isWitness || !held.get(node).contains(x)) {
            return null;
        }
        Event decider = null;
        for (Event y : held.get(node)) {
            if (y.isWitness && y.round > x.round && (vote(y, x) & DECIDES) == DECIDES) {
                if (decider == null || y.round < decider.round
                        || y.round == decider.round && y.number < decider.number) {
                    decider = y;
                }
            }
        }
        return decider;
    }

    /** What a node finds, all at once. */
    final class Finding {
        final Map<Event, Integer> fame = new HashMap<>();
        final Set<Integer> settled = new TreeSet<>();
        final Map<Integer, List<Event>> uniques = new HashMap<>();
        final Map<Event, Integer> received = new HashMap<>();
        final Map<Event, Long> stamps = new HashMap<>();
        final List<Event> order = new ArrayList<>();
        final int[] balances = new int[n];
        int paid;

        Finding(int node) {
            Set<Event> mine = held.get(node);
            for (Event x : mine) {
                fame.put(x, fame(node, x));
                if (fame.get(x) == 3) {
                    uniques.computeIfAbsent(x.round, r -> new ArrayList<>()).add(x);
                }
            }
            for (int r = 1; r <= greatestRound(); r++) {
                boolean isDecided = true;
                for (Event x : mine) {
                    isDecided &= !x.isWitness || x.round > r || fame.get(x) != 0;
                }
                if (isDecided && uniques.containsKey(r)) {
                    settled.add(r);
                }
            }
            for (Event x : mine) {
                receive(x);
            }
            order.addAll(received.keySet());
            order.sort(Comparator.<Event>comparingInt(received::get).thenComparingLong(stamps::get)
                    .thenComparing(this::turnedHash).thenComparingInt(e -> e.number));
            Arrays.fill(balances, 1000000);
            for (Event x : order) {
                for (int[] transaction : x.transactions) {
                    if (balances[x.creator] >= transaction[1]) {
                        paid++;
                        balances[x.creator] -= transaction[1];
                        balances[transaction[0]] += transaction[1];
                    }
                }
            }
        }

        private void receive(Event x) {
            for (int r : settled) {
                boolean hasAll = true;
                for (Event u : uniques.get(r)) {
                    hasAll &= u.ancestors.contains(x);
                }
                if (hasAll) {
                    received.put(x, r);
                    stamps.put(x, stampOf(x, uniques.get(r)));
                    return;
                }
            }
        }

        private long stampOf(Event x, List<Event> uniques) {
            List<Long> times = timesOf(x, uniques);
            return times.get(times.size() / 2);
        }

        /** When each of the unique ones' lives came to know x, rising. */
        List<Long> timesOf(Event x, List<Event> uniques) {
            List<Long> times = new ArrayList<>();
            for (Event u : uniques) {
                Event last = u;
                while (last.self != null && last.self.ancestors.contains(x)) {
                    last = last.self;
                }
                times.add(last.time);
            }
            Collections.sort(times);
            return times;
        }

        private BigInteger turnedHash(Event x) {
            BigInteger turned = new BigInteger(1, x.hash);
            for (Event u : uniques.get(received.get(x))) {
                turned = turned.xor(new BigInteger(1, u.hash));
            }
            return turned;
        }
    }
}
