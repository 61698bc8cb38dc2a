import java.io.ByteArrayOutputStream;
import java.nio.ByteBuffer;
import java.security.MessageDigest;
import java.security.NoSuchAlgorithmException;

/** Term 1: nodes, events and their hashes; and the 512 calls of an object. */
public final class Term1Test {
    private static final String TERM = "term 1 (promises 1 to 7)";
    private static final int[] NO_PARENT = new int[8];

    private static final Check check = new Check();

    public static void main(String[] args) {
        lastOfTheCalls();
        nodesFromTwoToEight();
        eventsUpToAll();
        parentsOrNone();
        firstEvents();
        hashOfFirstEvents();
        hashWithoutOtherParent();
        hashOfTimes();
        hashOfTransactions();
        check.finish();
    }

    /** "An object is used for at most 512 calls": the last of them is answered like any other. */
    private static void lastOfTheCalls() {
        HashgraphDesk desk = new HashgraphDesk();
        desk.begin(2);
        for (int call = 2; call <= 239; call++) {
            desk.sync(call % 2, 1 - call % 2, 10L * (call - 1));
        }
        for (int call = 240; call <= 479; call++) {
            check.due(TERM + ": call " + call, desk.event(call - 240, 7), call < 242 ? 1 : call - 239);
        }
        for (int call = 480; call <= 511; call++) {
            check.due(TERM + ": call " + call, desk.order(call % 2), call % 2 == 0 ? 236 : 234);
        }
        check.due(TERM + ": call 512, the last one", desk.count(4), 118);
    }

    private static void nodesFromTwoToEight() {
        for (int n = 2; n <= 8; n++) {
            int nodes = n;
            Desk desk = new Desk(n);
            check.due(TERM + ": node 0 of " + n, desk.order(0), 0);
            check.due(TERM + ": node n - 1 of " + n, desk.order(n - 1), 0);
            check.illegalArgument(TERM + ": node n of " + n, () -> desk.order(nodes));
            check.illegalArgument(TERM + ": node -1 of " + n, () -> desk.order(-1));
        }
        check.illegalArgument(TERM + ": 1 node", () -> new Desk(1).count(0));
        check.illegalArgument(TERM + ": 9 nodes", () -> new Desk(9).count(0));
    }

    /** Numbered as they are made, by sync() and inject() alike. */
    private static void eventsUpToAll() {
        Desk desk = new Desk(3);
        desk.sync(1, 0, 1);
        for (int number = 4; number < 240; number++) {
            int made = number % 2 == 0 ? desk.inject(0, 1, 1, -1, number) : desk.sync(0, 2, number);
            check.due(TERM + ": event " + number, made, number);
        }
        check.outOfBounds(TERM + ": none more by sync()", () -> desk.sync(0, 2, 1));
        check.outOfBounds(TERM + ": none more by inject()", () -> desk.inject(0, 1, 1, -1, 1));
    }

    private static void parentsOrNone() {
        Desk desk = new Desk(2);
        desk.sync(1, 0, 1);
        int alone = desk.inject(0, 1, 1, -1, 5);
        check.due(TERM + ": self-parent of a first event", desk.event(1, 1), -1);
        check.due(TERM + ": other-parent of a first event", desk.event(1, 2), -1);
        check.due(TERM + ": self-parent 1", desk.event(alone, 1), 1);
        check.due(TERM + ": no other-parent", desk.event(alone, 2), -1);
        check.due(TERM + ": parent 0 is one", desk.event(2, 1), 0);
    }

    private static void firstEvents() {
        for (int n = 2; n <= 8; n++) {
            Desk desk = new Desk(n);
            for (int x = 0; x < n; x++) {
                int[] parts = {x, -1, -1, 1, 1, 0, 1, 1};
                for (int what = 0; what < parts.length; what++) {
                    check.due(TERM + ": of " + n + " event(" + x + ", " + what + ")", desk.event(x, what), parts[what]);
                }
                for (int node = 0; node < n; node++) {
                    check.due(TERM + ": of " + n + " node " + node + " holds " + x, desk.found(node, x, 0),
                            node == x ? 1 : 0);
                }
            }
        }
    }

    private static int[] wordsOf(Desk desk, int x) {
        int[] words = new int[8];
        for (int word = 0; word < 8; word++) {
            words[word] = desk.hash(x, word);
        }
        return words;
    }

    /** Transactions: to, amount, to, amount .. The octets are put as the document lists them. */
    private static void dueHash(Desk desk, int x, int creator, int[] self, int[] other, long time,
            int... transactions) {
        ByteArrayOutputStream octets = new ByteArrayOutputStream();
        octets.write(creator);
        putWords(octets, self);
        putWords(octets, other);
        octets.writeBytes(ByteBuffer.allocate(8).putLong(time).array());
        octets.write(transactions.length / 2);
        for (int i = 0; i < transactions.length; i += 2) {
            octets.write(transactions[i]);
            octets.writeBytes(ByteBuffer.allocate(4).putInt(transactions[i + 1]).array());
        }
        check.due(TERM + ": octets of " + x, octets.size(), 74 + transactions.length / 2 * 5);
        ByteBuffer due = ByteBuffer.wrap(sha256(octets.toByteArray()));
        for (int word = 0; word < 8; word++) {
            check.due(TERM + ": hash(" + x + ", " + word + ")", desk.hash(x, word), due.getInt());
        }
    }

    private static void putWords(ByteArrayOutputStream octets, int[] words) {
        for (int word : words) {
            octets.writeBytes(ByteBuffer.allocate(4).putInt(word).array());
        }
    }

    private static byte[] sha256(byte[] octets) {
        try {
            return MessageDigest.getInstance("SHA-256").digest(octets);
        } catch (NoSuchAlgorithmException e) {
            throw new AssertionError(e);
        }
    }

    /** "Zeros if none", of the first creator and of the last; the time is 0 and there are no transactions. */
    private static void hashOfFirstEvents() {
        Desk desk = new Desk(8);
        for (int x = 0; x < 8; x++) {
            dueHash(desk, x, x, NO_PARENT, NO_PARENT, 0);
        }
    }

    private static void hashWithoutOtherParent() {
        Desk desk = new Desk(8);
        desk.sync(7, 0, 1);
        dueHash(desk, 8, 0, wordsOf(desk, 0), wordsOf(desk, 7), 1);
        dueHash(desk, desk.inject(0, 7, 7, -1, 5), 7, wordsOf(desk, 7), NO_PARENT, 5);
        dueHash(desk, desk.inject(0, 7, 9, 8, 5), 7, wordsOf(desk, 9), wordsOf(desk, 8), 5);
    }

    /** Eight octets, the highest first: the least long and the greatest, and each octet of its own. */
    private static void hashOfTimes() {
        Desk desk = new Desk(2);
        long[] times = {0, 1, -1, Integer.MAX_VALUE, Integer.MIN_VALUE, 1L << 31, 1L << 32, Long.MAX_VALUE,
            Long.MIN_VALUE, 0x0102030405060708L, 0x8090a0b0c0d0e0f0L};
        int self = 0;
        for (long time : times) {
            int made = desk.sync(1, 0, time);
            dueHash(desk, made, 0, wordsOf(desk, self), wordsOf(desk, 1), time);
            self = made;
        }
    }

    /** None, one, two and three, the fourth goes into the next event; to any node, the creator itself, too. */
    private static void hashOfTransactions() {
        for (int n : new int[] {2, 8}) {
            Desk desk = new Desk(n);
            int last = n - 1;
            int made = desk.sync(0, last, 1);
            dueHash(desk, made, last, wordsOf(desk, last), wordsOf(desk, 0), 1);
            desk.submit(last, 0, 0);
            int one = desk.sync(0, last, 2);
            dueHash(desk, one, last, wordsOf(desk, made), wordsOf(desk, 0), 2, 0, 0);
            desk.submit(last, last, 1000000);
            desk.submit(last, 0, 255);
            int two = desk.sync(0, last, 3);
            dueHash(desk, two, last, wordsOf(desk, one), wordsOf(desk, 0), 3, last, 1000000, 0, 255);
            desk.submit(last, 0, 256);
            desk.submit(last, last, 0);
            desk.submit(last, 0, 999999);
            desk.submit(last, 0, 70000);
            int three = desk.sync(0, last, 4);
            dueHash(desk, three, last, wordsOf(desk, two), wordsOf(desk, 0), 4, 0, 256, last, 0, 0, 999999);
            int rest = desk.sync(0, last, 5);
            dueHash(desk, rest, last, wordsOf(desk, three), wordsOf(desk, 0), 5, 0, 70000);
        }
    }
}
