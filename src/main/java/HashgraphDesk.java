import java.util.Arrays;

/** A ledger by gossip about gossip: the face of the document over the classes inside it. */
public final class HashgraphDesk {
    private static final int LEAST_NODES = 2;
    private static final int MOST_NODES = 8;
    private static final int FIRST_NODES = 4;
    private static final int MOST_EVENTS = 240;
    private static final int MOST_AMOUNT = 1000000;
    private static final int FIRST_BALANCE = 1000000;
    private static final int MOST_TRANSACTIONS = 3;
    private static final int HASH_WORDS = 8;
    private static final int NONE = -1;

    private static final int NOT_DECIDED = 0;
    private static final int NOT_FAMOUS = 1;
    private static final int FAMOUS = 2;
    private static final int UNIQUE = 3;

    private final Waiting waiting = new Waiting();
    private final Events events = new Events();
    private final Graph graph = new Graph(events);
    private final Election election = new Election(events, graph);
    private final View[] views = new View[MOST_NODES];
    private final int[] latest = new int[MOST_NODES];
    private int nodes;

    public HashgraphDesk() {
        for (int node = 0; node < MOST_NODES; node++) {
            views[node] = new View(node, events, graph, election);
        }
        startAnew(FIRST_NODES);
    }

    public void begin(int n) throws IllegalArgumentException {
        if (n < LEAST_NODES || n > MOST_NODES) {
            throw new IllegalArgumentException();
        }
        startAnew(n);
    }

    public int submit(int node, int to, int amount) throws IllegalArgumentException, IndexOutOfBoundsException {
        if (!isNode(node) || !isNode(to) || amount < 0 || amount > MOST_AMOUNT) {
            throw new IllegalArgumentException();
        }
        if (waiting.isFull(node)) {
            throw new IndexOutOfBoundsException();
        }
        waiting.join(node, to, amount);
        return waiting.length[node];
    }

    public int sync(int from, int to, long time) throws IllegalArgumentException, IndexOutOfBoundsException {
        if (!isNode(from) || !isNode(to) || from == to) {
            throw new IllegalArgumentException();
        }
        if (events.isFull()) {
            throw new IndexOutOfBoundsException();
        }
        events.holdings.join(to, events.holdings, from);
        int made = makeEvent(to, latest[to], latest[from], time, Math.min(waiting.length[to], MOST_TRANSACTIONS));
        give(made, to);
        latest[to] = made;
        return made;
    }

    public int inject(int node, int creator, int self, int other, long time)
            throws IllegalArgumentException, IllegalStateException, IndexOutOfBoundsException {
        if (!isNode(node) || !isNode(creator) || node == creator) {
            throw new IllegalArgumentException();
        }
        if (!isHeld(node, self) || events.creator[self] != creator) {
            throw new IllegalArgumentException();
        }
        if (other != NONE && (!isHeld(node, other) || events.creator[other] == creator)) {
            throw new IllegalArgumentException();
        }
        if (events.hasOneOf(creator, self, other, time)) {
            throw new IllegalStateException();
        }
        if (events.isFull()) {
            throw new IndexOutOfBoundsException();
        }
        int made = makeEvent(creator, self, other, time, 0);
        give(made, node);
        return made;
    }

    public int event(int x, int what) throws IllegalArgumentException, IndexOutOfBoundsException {
        if (what < 0 || what > 7) {
            throw new IllegalArgumentException();
        }
        if (!isEvent(x)) {
            throw new IndexOutOfBoundsException();
        }
        switch (what) {
            case 0: return events.creator[x];
            case 1: return events.self[x];
            case 2: return events.other[x];
            case 3: return graph.round[x];
            case 4: return graph.witness[x] ? 1 : 0;
            case 5: return events.transactions[x];
            case 6: return events.holdings.rowsWith(x);
            default: return graph.ancestors.size(x);
        }
    }

    public int hash(int x, int word) throws IndexOutOfBoundsException {
        if (!isEvent(x) || word < 0 || word >= HASH_WORDS) {
            throw new IndexOutOfBoundsException();
        }
        return events.hashWord(x, word);
    }

    public boolean sees(int x, int y, boolean strongly) throws IndexOutOfBoundsException {
        if (!isEvent(x) || !isEvent(y)) {
            throw new IndexOutOfBoundsException();
        }
        return strongly ? graph.stronglySeen.has(x, y) : graph.seen.has(x, y);
    }

    public int vote(int y, int x) throws IndexOutOfBoundsException, IllegalArgumentException {
        if (!isEvent(y) || !isEvent(x)) {
            throw new IndexOutOfBoundsException();
        }
        if (!graph.witness[y] || !graph.witness[x] || graph.round[y] <= graph.round[x]) {
            throw new IllegalArgumentException();
        }
        return (election.isYes(y, x) ? 1 : 0) + (election.decides(y, x) ? 2 : 0);
    }

    public int found(int node, int x, int what) throws IllegalArgumentException, IndexOutOfBoundsException {
        if (!isNode(node) || what < 0 || what > 3) {
            throw new IllegalArgumentException();
        }
        if (!isEvent(x)) {
            throw new IndexOutOfBoundsException();
        }
        switch (what) {
            case 0: return events.holdings.has(node, x) ? 1 : 0;
            case 1: return freshView(node).fame[x];
            case 2: return freshView(node).received[x];
            default: return freshView(node).place[x];
        }
    }

    public long stamp(int node, int x)
            throws IllegalArgumentException, IndexOutOfBoundsException, UnsupportedOperationException {
        if (!isNode(node)) {
            throw new IllegalArgumentException();
        }
        if (!isEvent(x)) {
            throw new IndexOutOfBoundsException();
        }
        View view = freshView(node);
        if (view.received[x] == 0) {
            throw new UnsupportedOperationException();
        }
        return view.stamps[x];
    }

    public int order(int node) throws IllegalArgumentException {
        if (!isNode(node)) {
            throw new IllegalArgumentException();
        }
        return freshView(node).length;
    }

    public int at(int node, int k) throws IllegalArgumentException, IndexOutOfBoundsException {
        if (!isNode(node)) {
            throw new IllegalArgumentException();
        }
        View view = freshView(node);
        if (k < 0 || k >= view.length) {
            throw new IndexOutOfBoundsException();
        }
        return view.sequence[k];
    }

    public int balance(int node, int account) throws IllegalArgumentException {
        if (!isNode(node) || !isNode(account)) {
            throw new IllegalArgumentException();
        }
        return freshView(node).balances[account];
    }

    public int count(int what) throws IllegalArgumentException {
        switch (what) {
            case 0: return nodes;
            case 1: return events.size;
            case 2: return graph.greatestRound;
            case 3: return graph.forks;
            case 4: return freshView(0).settledRounds;
            case 5: return waiting.lengthOfAll();
            default: throw new IllegalArgumentException();
        }
    }

    private void startAnew(int n) {
        nodes = n;
        waiting.clear();
        events.clear();
        graph.clear(n);
        election.clear(n);
        for (int node = 0; node < n; node++) {
            latest[node] = makeEvent(node, NONE, NONE, 0L, 0);
            give(latest[node], node);
        }
    }

    /** Its transactions are the first ones that wait at the creator: these wait no longer. */
    private int makeEvent(int creator, int self, int other, long time, int transactions) {
        int x = events.open(creator, self, other, time);
        for (int i = 0; i < transactions; i++) {
            events.addTransaction(x, waiting.firstTo(creator), waiting.firstAmount(creator));
            waiting.dropFirst(creator);
        }
        events.close(x);
        graph.take(x);
        election.take(x);
        return x;
    }

    private void give(int x, int node) {
        events.holdings.put(node, x);
        views[node].stale = true;
    }

    private View freshView(int node) {
        View view = views[node];
        if (view.stale) {
            view.findAll(nodes);
        }
        return view;
    }

    private boolean isNode(int node) {
        return node >= 0 && node < nodes;
    }

    private boolean isEvent(int x) {
        return x >= 0 && x < events.size;
    }

    private boolean isHeld(int node, int x) {
        return isEvent(x) && events.holdings.has(node, x);
    }

    private static boolean isMost(int some, int nodes) {
        return 3 * some > 2 * nodes;
    }

    /** SHA-256 of one short message, octet by octet. */
    private static final class Sha256 {
        private static final int[] ROUND_WORDS = {
            0x428a2f98, 0x71374491, 0xb5c0fbcf, 0xe9b5dba5, 0x3956c25b, 0x59f111f1, 0x923f82a4, 0xab1c5ed5,
            0xd807aa98, 0x12835b01, 0x243185be, 0x550c7dc3, 0x72be5d74, 0x80deb1fe, 0x9bdc06a7, 0xc19bf174,
            0xe49b69c1, 0xefbe4786, 0x0fc19dc6, 0x240ca1cc, 0x2de92c6f, 0x4a7484aa, 0x5cb0a9dc, 0x76f988da,
            0x983e5152, 0xa831c66d, 0xb00327c8, 0xbf597fc7, 0xc6e00bf3, 0xd5a79147, 0x06ca6351, 0x14292967,
            0x27b70a85, 0x2e1b2138, 0x4d2c6dfc, 0x53380d13, 0x650a7354, 0x766a0abb, 0x81c2c92e, 0x92722c85,
            0xa2bfe8a1, 0xa81a664b, 0xc24b8b70, 0xc76c51a3, 0xd192e819, 0xd6990624, 0xf40e3585, 0x106aa070,
            0x19a4c116, 0x1e376c08, 0x2748774c, 0x34b0bcb5, 0x391c0cb3, 0x4ed8aa4a, 0x5b9cca4f, 0x682e6ff3,
            0x748f82ee, 0x78a5636f, 0x84c87814, 0x8cc70208, 0x90befffa, 0xa4506ceb, 0xbef9a3f7, 0xc67178f2
        };
        private static final int[] FIRST_STATE = {
            0x6a09e667, 0xbb67ae85, 0x3c6ef372, 0xa54ff53a, 0x510e527f, 0x9b05688c, 0x1f83d9ab, 0x5be0cd19
        };
        private static final int BLOCK_WORDS = 16;

        // An event is 74 to 89 octets long: with the padding it always fills two blocks.
        private final int[] message = new int[2 * BLOCK_WORDS];
        private final int[] schedule = new int[64];
        private final int[] state = new int[HASH_WORDS];
        private int length;

        void start() {
            Arrays.fill(message, 0);
            length = 0;
        }

        void putOctet(int octet) {
            message[length >> 2] |= (octet & 255) << (24 - 8 * (length & 3));
            length++;
        }

        void putInt(int word) {
            for (int shift = 24; shift >= 0; shift -= 8) {
                putOctet(word >>> shift);
            }
        }

        void putLong(long word) {
            putInt((int) (word >>> 32));
            putInt((int) word);
        }

        void finishInto(int[] hashes, int offset) {
            int bits = 8 * length;
            putOctet(0x80);
            message[2 * BLOCK_WORDS - 1] = bits;
            System.arraycopy(FIRST_STATE, 0, state, 0, HASH_WORDS);
            fillSchedule(0);
            mixSchedule();
            fillSchedule(BLOCK_WORDS);
            mixSchedule();
            System.arraycopy(state, 0, hashes, offset, HASH_WORDS);
        }

        private void fillSchedule(int start) {
            System.arraycopy(message, start, schedule, 0, BLOCK_WORDS);
            for (int i = BLOCK_WORDS; i < 64; i++) {
                int early = schedule[i - 15];
                int late = schedule[i - 2];
                int fromEarly = turned(early, 7) ^ turned(early, 18) ^ (early >>> 3);
                int fromLate = turned(late, 17) ^ turned(late, 19) ^ (late >>> 10);
                schedule[i] = schedule[i - 16] + fromEarly + schedule[i - 7] + fromLate;
            }
        }

        private void mixSchedule() {
            int a = state[0];
            int b = state[1];
            int c = state[2];
            int d = state[3];
            int e = state[4];
            int f = state[5];
            int g = state[6];
            int h = state[7];
            for (int i = 0; i < 64; i++) {
                int turnedE = turned(e, 6) ^ turned(e, 11) ^ turned(e, 25);
                int choice = (e & f) ^ (~e & g);
                int first = h + turnedE + choice + ROUND_WORDS[i] + schedule[i];
                int turnedA = turned(a, 2) ^ turned(a, 13) ^ turned(a, 22);
                int majority = (a & b) ^ (a & c) ^ (b & c);
                h = g;
                g = f;
                f = e;
                e = d + first;
                d = c;
                c = b;
                b = a;
                a = first + turnedA + majority;
            }
            state[0] += a;
            state[1] += b;
            state[2] += c;
            state[3] += d;
            state[4] += e;
            state[5] += f;
            state[6] += g;
            state[7] += h;
        }

        private static int turned(int word, int places) {
            return (word >>> places) | (word << (32 - places));
        }
    }

    /** Rows of bits, a bit for each event. */
    private static final class BitTable {
        private static final int ROW_WORDS = (MOST_EVENTS + 63) / 64;

        private final int rows;
        private final long[] words;

        BitTable(int rows) {
            this.rows = rows;
            words = new long[rows * ROW_WORDS];
        }

        void clear() {
            Arrays.fill(words, 0L);
        }

        void clearRow(int row) {
            Arrays.fill(words, row * ROW_WORDS, (row + 1) * ROW_WORDS, 0L);
        }

        boolean has(int row, int bit) {
            return (words[row * ROW_WORDS + (bit >> 6)] >>> (bit & 63) & 1L) != 0L;
        }

        void put(int row, int bit) {
            words[row * ROW_WORDS + (bit >> 6)] |= 1L << (bit & 63);
        }

        void join(int row, BitTable from, int fromRow) {
            for (int i = 0; i < ROW_WORDS; i++) {
                words[row * ROW_WORDS + i] |= from.words[fromRow * ROW_WORDS + i];
            }
        }

        int size(int row) {
            return sizeInCommon(row, this, row);
        }

        int sizeInCommon(int row, BitTable with, int withRow) {
            int size = 0;
            for (int i = 0; i < ROW_WORDS; i++) {
                size += Long.bitCount(words[row * ROW_WORDS + i] & with.words[withRow * ROW_WORDS + i]);
            }
            return size;
        }

        int rowsWith(int bit) {
            int some = 0;
            for (int row = 0; row < rows; row++) {
                some += has(row, bit) ? 1 : 0;
            }
            return some;
        }
    }

    /** The transactions that wait at each node, the first one at place 0. */
    private static final class Waiting {
        private static final int MOST_WAITING = 8;

        private final int[] to = new int[MOST_NODES * MOST_WAITING];
        private final int[] amount = new int[MOST_NODES * MOST_WAITING];
        private final int[] length = new int[MOST_NODES];

        void clear() {
            Arrays.fill(length, 0);
        }

        boolean isFull(int node) {
            return length[node] == MOST_WAITING;
        }

        void join(int node, int receiver, int sum) {
            int place = node * MOST_WAITING + length[node];
            to[place] = receiver;
            amount[place] = sum;
            length[node]++;
        }

        int firstTo(int node) {
            return to[node * MOST_WAITING];
        }

        int firstAmount(int node) {
            return amount[node * MOST_WAITING];
        }

        void dropFirst(int node) {
            int first = node * MOST_WAITING;
            length[node]--;
            System.arraycopy(to, first + 1, to, first, length[node]);
            System.arraycopy(amount, first + 1, amount, first, length[node]);
        }

        int lengthOfAll() {
            int sum = 0;
            for (int node = 0; node < MOST_NODES; node++) {
                sum += length[node];
            }
            return sum;
        }
    }

    /** The parts of each event, its hash, and which nodes hold it. */
    private static final class Events {
        private final Sha256 sha = new Sha256();
        private final int[] creator = new int[MOST_EVENTS];
        private final int[] self = new int[MOST_EVENTS];
        private final int[] other = new int[MOST_EVENTS];
        private final long[] time = new long[MOST_EVENTS];
        private final int[] transactions = new int[MOST_EVENTS];
        private final int[] to = new int[MOST_EVENTS * MOST_TRANSACTIONS];
        private final int[] amount = new int[MOST_EVENTS * MOST_TRANSACTIONS];
        private final int[] hashes = new int[MOST_EVENTS * HASH_WORDS];
        private final BitTable holdings = new BitTable(MOST_NODES);
        private int size;

        void clear() {
            size = 0;
            holdings.clear();
        }

        boolean isFull() {
            return size == MOST_EVENTS;
        }

        int open(int by, int selfParent, int otherParent, long when) {
            int x = size;
            size++;
            creator[x] = by;
            self[x] = selfParent;
            other[x] = otherParent;
            time[x] = when;
            transactions[x] = 0;
            return x;
        }

        void addTransaction(int x, int receiver, int sum) {
            int place = x * MOST_TRANSACTIONS + transactions[x];
            to[place] = receiver;
            amount[place] = sum;
            transactions[x]++;
        }

        void close(int x) {
            sha.start();
            sha.putOctet(creator[x]);
            putParentHash(self[x]);
            putParentHash(other[x]);
            sha.putLong(time[x]);
            sha.putOctet(transactions[x]);
            for (int i = 0; i < transactions[x]; i++) {
                sha.putOctet(to[x * MOST_TRANSACTIONS + i]);
                sha.putInt(amount[x * MOST_TRANSACTIONS + i]);
            }
            sha.finishInto(hashes, x * HASH_WORDS);
        }

        private void putParentHash(int parent) {
            for (int word = 0; word < HASH_WORDS; word++) {
                sha.putInt(parent == NONE ? 0 : hashWord(parent, word));
            }
        }

        int hashWord(int x, int word) {
            return hashes[x * HASH_WORDS + word];
        }

        boolean hasOneOf(int by, int selfParent, int otherParent, long when) {
            for (int x = 0; x < size; x++) {
                if (creator[x] == by && self[x] == selfParent && other[x] == otherParent
                        && time[x] == when && transactions[x] == 0) {
                    return true;
                }
            }
            return false;
        }
    }

    /** What follows from the parents alone: ancestors, forks, what is seen, rounds and witnesses. */
    private static final class Graph {
        private final Events events;
        private final BitTable ancestors = new BitTable(MOST_EVENTS);
        private final BitTable seen = new BitTable(MOST_EVENTS);
        private final BitTable stronglySeen = new BitTable(MOST_EVENTS);
        private final BitTable seenThrough = new BitTable(MOST_NODES);
        private final int[] depth = new int[MOST_EVENTS];
        private final int[] round = new int[MOST_EVENTS];
        private final boolean[] witness = new boolean[MOST_EVENTS];
        private final int[] madeBy = new int[MOST_NODES];
        private final int[] amongAncestors = new int[MOST_NODES];
        private final int[] deepest = new int[MOST_NODES];
        private int nodes;
        private int forks;
        private int greatestRound;

        Graph(Events events) {
            this.events = events;
        }

        void clear(int n) {
            nodes = n;
            forks = 0;
            greatestRound = 0;
            Arrays.fill(madeBy, 0);
        }

        void take(int x) {
            findAncestors(x);
            countForks(x);
            findSeen(x);
            findStronglySeen(x);
            findRound(x);
        }

        private void findAncestors(int x) {
            int self = events.self[x];
            int other = events.other[x];
            ancestors.clearRow(x);
            ancestors.put(x, x);
            if (self != NONE) {
                ancestors.join(x, ancestors, self);
            }
            if (other != NONE) {
                ancestors.join(x, ancestors, other);
            }
            depth[x] = self == NONE ? 1 : depth[self] + 1;
        }

        /** A new event forks with every older one of its creator that is no self-ancestor of it. */
        private void countForks(int x) {
            int creator = events.creator[x];
            forks += madeBy[creator] - (depth[x] - 1);
            madeBy[creator]++;
        }

        private void findSeen(int x) {
            countAncestorsByCreator(x);
            seen.clearRow(x);
            for (int y = 0; y <= x; y++) {
                if (ancestors.has(x, y) && !isForker(events.creator[y])) {
                    seen.put(x, y);
                }
            }
        }

        private void countAncestorsByCreator(int x) {
            Arrays.fill(amongAncestors, 0);
            Arrays.fill(deepest, 0);
            for (int y = 0; y <= x; y++) {
                if (ancestors.has(x, y)) {
                    int creator = events.creator[y];
                    amongAncestors[creator]++;
                    deepest[creator] = Math.max(deepest[creator], depth[y]);
                }
            }
        }

        /** All events of a creator come from its first one: without a fork they are one chain, no more than deep. */
        private boolean isForker(int creator) {
            return amongAncestors[creator] > deepest[creator];
        }

        private void findStronglySeen(int x) {
            seenThrough.clear();
            for (int z = 0; z <= x; z++) {
                if (seen.has(x, z)) {
                    seenThrough.join(events.creator[z], seen, z);
                }
            }
            stronglySeen.clearRow(x);
            for (int y = 0; y <= x; y++) {
                if (isMost(seenThrough.rowsWith(y), nodes)) {
                    stronglySeen.put(x, y);
                }
            }
        }

        private void findRound(int x) {
            int self = events.self[x];
            int other = events.other[x];
            int least = Math.max(self == NONE ? 0 : round[self], other == NONE ? 0 : round[other]);
            // Without parents this is round 0 and no witness is in it: then it is 1 by the document's word.
            boolean isNext = least == 0 || stronglySeesMostOf(x, least);
            round[x] = isNext ? least + 1 : least;
            witness[x] = self == NONE || round[self] < round[x];
            greatestRound = Math.max(greatestRound, round[x]);
        }

        private boolean stronglySeesMostOf(int x, int wanted) {
            int creators = 0;
            for (int y = 0; y < x; y++) {
                if (witness[y] && round[y] == wanted && stronglySeen.has(x, y)) {
                    creators |= 1 << events.creator[y];
                }
            }
            return isMost(Integer.bitCount(creators), nodes);
        }
    }

    /** The votes of the witnesses on those of lesser rounds. */
    private static final class Election {
        private static final int COIN_EVERY = 4;
        // The highest bit of octet 16 of a hash is the sign of its word 4.
        private static final int COIN_WORD = 4;

        private final Events events;
        private final Graph graph;
        private final int[] witnesses = new int[MOST_EVENTS];
        // Of a witness y: those whose votes it counts.
        private final BitTable electors = new BitTable(MOST_EVENTS);
        // Of a witness x: those that vote yes on it, and those that decide it.
        private final BitTable yesVotes = new BitTable(MOST_EVENTS);
        private final BitTable decisions = new BitTable(MOST_EVENTS);
        private int size;
        private int nodes;

        Election(Events events, Graph graph) {
            this.events = events;
            this.graph = graph;
        }

        void clear(int n) {
            nodes = n;
            size = 0;
        }

        boolean isYes(int y, int x) {
            return yesVotes.has(x, y);
        }

        boolean decides(int y, int x) {
            return decisions.has(x, y);
        }

        /** A new witness votes on the old ones, and old ones of greater rounds vote on it. */
        void take(int x) {
            if (!graph.witness[x]) {
                return;
            }
            findElectors(x);
            yesVotes.clearRow(x);
            decisions.clearRow(x);
            for (int i = 0; i < size; i++) {
                if (graph.round[witnesses[i]] < graph.round[x]) {
                    castVote(x, witnesses[i]);
                }
            }
            // In the order of their numbers: the electors of a witness are older than it.
            for (int i = 0; i < size; i++) {
                if (graph.round[witnesses[i]] > graph.round[x]) {
                    castVote(witnesses[i], x);
                }
            }
            witnesses[size] = x;
            size++;
        }

        private void findElectors(int y) {
            electors.clearRow(y);
            for (int i = 0; i < size; i++) {
                int z = witnesses[i];
                if (graph.round[z] == graph.round[y] - 1 && graph.stronglySeen.has(y, z)) {
                    electors.put(y, z);
                }
            }
        }

        private void castVote(int y, int x) {
            int distance = graph.round[y] - graph.round[x];
            if (distance == 1) {
                write(y, x, graph.seen.has(y, x), false);
                return;
            }
            int yes = electors.sizeInCommon(y, yesVotes, x);
            int no = electors.size(y) - yes;
            boolean choice = yes >= no;
            boolean isClear = isMost(Math.max(yes, no), nodes);
            if (distance % COIN_EVERY != 0) {
                write(y, x, choice, isClear);
            } else {
                write(y, x, isClear ? choice : events.hashWord(y, COIN_WORD) < 0, false);
            }
        }

        private void write(int y, int x, boolean isYes, boolean isDecision) {
            if (isYes) {
                yesVotes.put(x, y);
            }
            if (isDecision) {
                decisions.put(x, y);
            }
        }
    }

    /** What one node finds of the events that it holds. */
    private static final class View {
        private final int node;
        private final Events events;
        private final Graph graph;
        private final Election election;
        private final int[] fame = new int[MOST_EVENTS];
        private final int[] received = new int[MOST_EVENTS];
        private final long[] stamps = new long[MOST_EVENTS];
        private final int[] place = new int[MOST_EVENTS];
        private final int[] sequence = new int[MOST_EVENTS];
        private final int[] balances = new int[MOST_NODES];
        // By rounds: a creator has one unique witness in a round at most.
        private final int[] uniques = new int[(MOST_EVENTS + 1) * MOST_NODES];
        private final int[] uniqueCount = new int[MOST_EVENTS + 1];
        private final int[] turnedBits = new int[(MOST_EVENTS + 1) * HASH_WORDS];
        private final boolean[] settled = new boolean[MOST_EVENTS + 1];
        private final long[] times = new long[MOST_NODES];
        private int length;
        private int settledRounds;
        private boolean stale;

        View(int node, Events events, Graph graph, Election election) {
            this.node = node;
            this.events = events;
            this.graph = graph;
            this.election = election;
        }

        void findAll(int nodes) {
            findFame();
            findUniques();
            settleRounds();
            findReceived();
            findOrder();
            findBalances(nodes);
            stale = false;
        }

        private boolean holds(int x) {
            return events.holdings.has(node, x);
        }

        private void findFame() {
            Arrays.fill(fame, NOT_DECIDED);
            for (int i = 0; i < election.size; i++) {
                int x = election.witnesses[i];
                int decider = holds(x) ? deciderOf(x) : NONE;
                if (decider != NONE) {
                    fame[x] = election.isYes(decider, x) ? FAMOUS : NOT_FAMOUS;
                }
            }
        }

        private int deciderOf(int x) {
            int decider = NONE;
            for (int i = 0; i < election.size; i++) {
                int y = election.witnesses[i];
                boolean isEarlier = decider == NONE || graph.round[y] < graph.round[decider];
                if (isEarlier && election.decides(y, x) && holds(y)) {
                    decider = y;
                }
            }
            return decider;
        }

        private void findUniques() {
            Arrays.fill(uniqueCount, 0);
            Arrays.fill(turnedBits, 0);
            for (int i = 0; i < election.size; i++) {
                int x = election.witnesses[i];
                if (fame[x] == FAMOUS && isOnlyFamousOne(x)) {
                    fame[x] = UNIQUE;
                    addUnique(x, graph.round[x]);
                }
            }
        }

        private boolean isOnlyFamousOne(int x) {
            for (int i = 0; i < election.size; i++) {
                int y = election.witnesses[i];
                if (y != x && fame[y] >= FAMOUS && graph.round[y] == graph.round[x]
                        && events.creator[y] == events.creator[x]) {
                    return false;
                }
            }
            return true;
        }

        private void addUnique(int x, int round) {
            uniques[round * MOST_NODES + uniqueCount[round]] = x;
            uniqueCount[round]++;
            for (int word = 0; word < HASH_WORDS; word++) {
                turnedBits[round * HASH_WORDS + word] ^= events.hashWord(x, word);
            }
        }

        private void settleRounds() {
            int open = leastOpenRound();
            settledRounds = 0;
            for (int round = 1; round <= MOST_EVENTS; round++) {
                settled[round] = round < open && uniqueCount[round] > 0;
                settledRounds += settled[round] ? 1 : 0;
            }
        }

        private int leastOpenRound() {
            int least = MOST_EVENTS + 1;
            for (int i = 0; i < election.size; i++) {
                int x = election.witnesses[i];
                if (holds(x) && fame[x] == NOT_DECIDED) {
                    least = Math.min(least, graph.round[x]);
                }
            }
            return least;
        }

        private void findReceived() {
            Arrays.fill(received, 0);
            for (int x = 0; x < events.size; x++) {
                if (holds(x)) {
                    received[x] = roundReceiving(x);
                }
                if (received[x] != 0) {
                    stamps[x] = stampIn(received[x], x);
                }
            }
        }

        /** No event of a lesser round has x as an ancestor. */
        private int roundReceiving(int x) {
            for (int round = graph.round[x]; round <= graph.greatestRound; round++) {
                if (settled[round] && isBelowAllUniques(x, round)) {
                    return round;
                }
            }
            return 0;
        }

        private boolean isBelowAllUniques(int x, int round) {
            for (int i = 0; i < uniqueCount[round]; i++) {
                if (!graph.ancestors.has(uniques[round * MOST_NODES + i], x)) {
                    return false;
                }
            }
            return true;
        }

        private long stampIn(int round, int x) {
            for (int i = 0; i < uniqueCount[round]; i++) {
                long time = events.time[firstAbove(x, uniques[round * MOST_NODES + i])];
                int k = i;
                while (k > 0 && times[k - 1] > time) {
                    times[k] = times[k - 1];
                    k--;
                }
                times[k] = time;
            }
            return times[uniqueCount[round] / 2];
        }

        private int firstAbove(int x, int above) {
            int first = above;
            for (int step = 0; step < MOST_EVENTS; step++) {
                int self = events.self[first];
                if (self == NONE || !graph.ancestors.has(self, x)) {
                    return first;
                }
                first = self;
            }
            return first;
        }

        private void findOrder() {
            Arrays.fill(place, NONE);
            length = 0;
            for (int x = 0; x < events.size; x++) {
                if (received[x] != 0) {
                    insert(x);
                }
            }
            for (int k = 0; k < length; k++) {
                place[sequence[k]] = k;
            }
        }

        private void insert(int x) {
            int k = length;
            while (k > 0 && isBefore(x, sequence[k - 1])) {
                sequence[k] = sequence[k - 1];
                k--;
            }
            sequence[k] = x;
            length++;
        }

        private boolean isBefore(int x, int y) {
            if (received[x] != received[y]) {
                return received[x] < received[y];
            }
            if (stamps[x] != stamps[y]) {
                return stamps[x] < stamps[y];
            }
            for (int word = 0; word < HASH_WORDS; word++) {
                int bits = turnedBits[received[x] * HASH_WORDS + word];
                int ofX = events.hashWord(x, word) ^ bits;
                int ofY = events.hashWord(y, word) ^ bits;
                if (ofX != ofY) {
                    // Without sign: the highest bit turned makes the order of ints that of the unsigned words.
                    return (ofX ^ Integer.MIN_VALUE) < (ofY ^ Integer.MIN_VALUE);
                }
            }
            return x < y;
        }

        private void findBalances(int nodes) {
            Arrays.fill(balances, 0);
            Arrays.fill(balances, 0, nodes, FIRST_BALANCE);
            for (int k = 0; k < length; k++) {
                int x = sequence[k];
                for (int i = 0; i < events.transactions[x]; i++) {
                    int transaction = x * MOST_TRANSACTIONS + i;
                    pay(events.creator[x], events.to[transaction], events.amount[transaction]);
                }
            }
        }

        private void pay(int from, int to, int amount) {
            if (balances[from] >= amount) {
                balances[from] -= amount;
                balances[to] += amount;
            }
        }
    }
}
