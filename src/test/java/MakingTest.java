/** Promises 1 to 8 and 15: how events are made, and what follows from their parents alone. */
public final class MakingTest {
    private static final Check check = new Check();

    public static void main(String[] args) {
        newObject();
        begin();
        beginAnew();
        submit();
        sync();
        syncTakesTransactions();
        syncSharesAll();
        syncUpToTheLast();
        inject();
        injectWrongly();
        injectAndSyncAlike();
        injectUpToTheLast();
        event();
        hash();
        hashOfExtremes();
        sees();
        seesNoForker();
        stronglySees();
        count();
        check.finish();
    }

    private static HashgraphDesk desk(int n) {
        HashgraphDesk desk = new HashgraphDesk();
        desk.begin(n);
        return desk;
    }

    /** Promise 1. */
    private static void newObject() {
        HashgraphDesk desk = new HashgraphDesk();
        check.due("nodes of a new object", desk.count(0), 4);
        check.due("events of a new object", desk.count(1), 4);
        for (int x = 0; x < 4; x++) {
            int[] parts = {x, -1, -1, 1, 1, 0, 1, 1};
            for (int what = 0; what < 8; what++) {
                check.due("new event(" + x + ", " + what + ")", desk.event(x, what), parts[what]);
            }
            for (int node = 0; node < 4; node++) {
                check.due("new found(" + node + ", " + x + ", 0)", desk.found(node, x, 0), node == x ? 1 : 0);
            }
        }
        check.isTrue("a new object is one begun with 4", State.of(desk).equals(State.of(desk(4))));
    }

    /** Promise 2. */
    private static void begin() {
        for (int n = 2; n <= 8; n++) {
            check.due("nodes after begin(" + n + ")", desk(n).count(0), n);
            check.due("events after begin(" + n + ")", desk(n).count(1), n);
        }
        HashgraphDesk desk = busyDesk();
        String before = State.of(desk);
        for (int n : new int[] {1, 0, -1, 9, 10, Integer.MIN_VALUE, Integer.MAX_VALUE}) {
            check.illegalArgument("begin(" + n + ")", () -> {
                desk.begin(n);
                return 0;
            });
        }
        check.isTrue("a begin that throws changes nothing", State.of(desk).equals(before));
    }

    private static void beginAnew() {
        for (int n = 2; n <= 8; n++) {
            HashgraphDesk desk = busyDesk();
            desk.begin(n);
            check.isTrue("begin(" + n + ") makes all anew", State.of(desk).equals(State.of(desk(n))));
            check.due("the first sync after it", desk.sync(0, 1, 5), n);
            check.due("its self-parent", desk.event(n, 1), 1);
            check.due("its other-parent", desk.event(n, 2), 0);
            check.due("its transactions", desk.event(n, 5), 0);
        }
    }

    /** Rounds, forks, an order, payments and waiting transactions. */
    private static HashgraphDesk busyDesk() {
        HashgraphDesk desk = new HashgraphDesk();
        for (int k = 0; k < 80; k++) {
            if (k % 5 == 0) {
                desk.submit(k % 4, (k + 1) % 4, 1000 * k);
            }
            desk.sync(k % 4, (k + 1) % 4, 3L * k);
        }
        desk.inject(0, 1, 1, 0, 7);
        for (int node = 0; node < 4; node++) {
            desk.submit(node, node, 9);
        }
        return desk;
    }

    /** Promise 3. */
    private static void submit() {
        HashgraphDesk desk = desk(3);
        for (int k = 1; k <= 8; k++) {
            check.due("submit " + k, desk.submit(1, k % 3, k % 2 == 0 ? 0 : 1000000), k);
        }
        check.due("submit to another node", desk.submit(2, 2, 5), 1);
        check.due("all that wait", desk.count(5), 9);
        check.outOfBounds("the ninth", () -> desk.submit(1, 0, 1));
        check.illegalArgument("the ninth with a wrong receiver", () -> desk.submit(1, 3, 1));
        check.illegalArgument("no node -1", () -> desk.submit(-1, 0, 1));
        check.illegalArgument("no node 3", () -> desk.submit(3, 0, 1));
        check.illegalArgument("no receiver -1", () -> desk.submit(0, -1, 1));
        check.illegalArgument("no receiver 3", () -> desk.submit(0, 3, 1));
        check.illegalArgument("amount -1", () -> desk.submit(0, 1, -1));
        check.illegalArgument("amount 1000001", () -> desk.submit(0, 1, 1000001));
        check.illegalArgument("the greatest amount", () -> desk.submit(0, 1, Integer.MAX_VALUE));
        check.illegalArgument("the least amount", () -> desk.submit(0, 1, Integer.MIN_VALUE));
        check.due("all that wait, as before", desk.count(5), 9);
        check.due("no event was made", desk.count(1), 3);
        check.due("a sync takes three", desk.event(desk.sync(0, 1, 1), 5), 3);
        check.due("then there is room again", desk.submit(1, 0, 1), 6);
    }

    /** Promise 4. */
    private static void sync() {
        HashgraphDesk desk = desk(3);
        check.due("the first sync", desk.sync(0, 1, 1), 3);
        check.due("the second", desk.sync(1, 2, 2), 4);
        check.due("the third", desk.sync(1, 0, 3), 5);
        int[][] parents = {{1, 0}, {2, 3}, {0, 3}};
        for (int k = 0; k < 3; k++) {
            check.due("self-parent of " + (3 + k), desk.event(3 + k, 1), parents[k][0]);
            check.due("other-parent of " + (3 + k), desk.event(3 + k, 2), parents[k][1]);
        }
        String before = State.of(desk);
        check.illegalArgument("from no node", () -> desk.sync(3, 0, 1));
        check.illegalArgument("from node -1", () -> desk.sync(-1, 0, 1));
        check.illegalArgument("to no node", () -> desk.sync(0, 3, 1));
        check.illegalArgument("to node -1", () -> desk.sync(0, -1, 1));
        check.illegalArgument("to itself", () -> desk.sync(2, 2, 1));
        check.isTrue("a sync that throws changes nothing", State.of(desk).equals(before));
        check.due("the same parents and time once more are another event", sameTwice(), 1);
    }

    /** Only the creator's life moves on, so the self-parent is another one: the hashes differ. */
    private static int sameTwice() {
        HashgraphDesk desk = desk(2);
        int first = desk.sync(0, 1, 9);
        int second = desk.sync(0, 1, 9);
        return second == first + 1 && desk.event(second, 1) == first && desk.hash(first, 0) != desk.hash(second, 0)
                ? 1 : 0;
    }

    private static void syncTakesTransactions() {
        HashgraphDesk desk = desk(2);
        for (int k = 0; k < 5; k++) {
            desk.submit(1, 0, 100 * (k + 1));
        }
        check.due("transactions of the sender wait on", desk.event(desk.sync(1, 0, 1), 5), 0);
        check.due("five still wait", desk.count(5), 5);
        int first = desk.sync(0, 1, 2);
        check.due("three go in", desk.event(first, 5), 3);
        check.due("two wait", desk.count(5), 2);
        int second = desk.sync(0, 1, 3);
        check.due("two go in", desk.event(second, 5), 2);
        check.due("none wait", desk.count(5), 0);
        check.due("none go in", desk.event(desk.sync(0, 1, 4), 5), 0);
    }

    private static void syncSharesAll() {
        HashgraphDesk desk = desk(4);
        desk.sync(0, 1, 1);
        desk.inject(1, 0, 0, 1, 5);
        desk.sync(1, 2, 2);
        int[][] holders = {{1, 1, 1, 0}, {0, 1, 1, 0}, {0, 0, 1, 0}, {0, 0, 0, 1}, {0, 1, 1, 0}, {0, 1, 1, 0},
            {0, 0, 1, 0}};
        for (int x = 0; x < holders.length; x++) {
            int some = 0;
            for (int node = 0; node < 4; node++) {
                check.due("found(" + node + ", " + x + ", 0)", desk.found(node, x, 0), holders[x][node]);
                some += holders[x][node];
            }
            check.due("holders of " + x, desk.event(x, 6), some);
        }
        check.due("the other-parent is the latest of node 1", desk.event(6, 2), 4);
        desk.sync(0, 3, 3);
        check.due("the latest of node 0 is not the injected one: as other-parent", desk.event(7, 2), 0);
        desk.sync(2, 0, 4);
        check.due("and as self-parent", desk.event(8, 1), 0);
    }

    private static void syncUpToTheLast() {
        HashgraphDesk desk = desk(5);
        desk.submit(0, 1, 5);
        for (int k = 5; k < 239; k++) {
            desk.sync(1 + k % 3, 1 + (k + 1) % 3, k);
        }
        check.due("the last event", desk.sync(1, 2, 7), 239);
        String before = State.of(desk);
        check.outOfBounds("there are 240", () -> desk.sync(1, 0, 7));
        check.illegalArgument("there are 240, and it is the same node", () -> desk.sync(1, 1, 7));
        check.isTrue("nothing has changed", State.of(desk).equals(before));
        check.due("node 0 got nothing", desk.found(0, 1, 0), 0);
        check.due("its transaction waits on", desk.count(5), 1);
        check.due("submit goes on", desk.submit(0, 1, 5), 2);
    }

    /** Promise 5. */
    private static void inject() {
        HashgraphDesk desk = desk(3);
        desk.submit(0, 1, 5);
        desk.submit(1, 1, 5);
        desk.sync(1, 0, 1);
        check.due("without an other-parent", desk.inject(0, 1, 1, -1, 4), 4);
        int[] parts = {1, 1, -1, 1, 0, 0, 1, 2};
        for (int what = 0; what < 8; what++) {
            check.due("event(4, " + what + ")", desk.event(4, what), parts[what]);
        }
        check.due("with one", desk.inject(0, 1, 4, 3, Long.MIN_VALUE), 5);
        check.due("self-parent", desk.event(5, 1), 4);
        check.due("other-parent", desk.event(5, 2), 3);
        check.due("node 0 holds it", desk.found(0, 5, 0), 1);
        check.due("its creator does not", desk.found(1, 5, 0), 0);
        check.due("node 2 does not", desk.found(2, 5, 0), 0);
        check.due("what waits at node 1 waits on", desk.count(5), 1);
    }

    private static void injectWrongly() {
        HashgraphDesk desk = desk(4);
        desk.sync(1, 0, 1);
        desk.sync(2, 3, 1);
        desk.inject(0, 1, 1, 0, 7);
        String before = State.of(desk);
        check.illegalArgument("no node -1", () -> desk.inject(-1, 1, 1, 0, 8));
        check.illegalArgument("no node 4", () -> desk.inject(4, 1, 1, 0, 8));
        check.illegalArgument("no creator -1", () -> desk.inject(0, -1, 1, 0, 8));
        check.illegalArgument("no creator 4", () -> desk.inject(0, 4, 1, 0, 8));
        check.illegalArgument("the node itself", () -> desk.inject(0, 0, 0, 1, 8));
        check.illegalArgument("self none", () -> desk.inject(0, 1, -1, 0, 8));
        check.illegalArgument("self no event", () -> desk.inject(0, 1, 7, 0, 8));
        check.illegalArgument("self far off", () -> desk.inject(0, 1, Integer.MAX_VALUE, 0, 8));
        check.illegalArgument("self least of all", () -> desk.inject(0, 1, Integer.MIN_VALUE, 0, 8));
        check.illegalArgument("self not held", () -> desk.inject(0, 2, 2, 0, 8));
        check.illegalArgument("self by another", () -> desk.inject(0, 1, 0, 4, 8));
        check.illegalArgument("other -2", () -> desk.inject(0, 1, 1, -2, 8));
        check.illegalArgument("other no event", () -> desk.inject(0, 1, 1, 7, 8));
        check.illegalArgument("other not held", () -> desk.inject(0, 1, 1, 2, 8));
        check.illegalArgument("other by the creator", () -> desk.inject(0, 1, 1, 6, 8));
        check.illegalArgument("other is self", () -> desk.inject(0, 1, 1, 1, 8));
        check.illegalState("the same again", () -> desk.inject(0, 1, 1, 0, 7));
        check.isTrue("nothing has changed", State.of(desk).equals(before));
        check.due("another time", desk.inject(0, 1, 1, 0, 8), 7);
        check.due("another other-parent", desk.inject(0, 1, 1, 4, 7), 8);
        check.due("no other-parent", desk.inject(0, 1, 1, -1, 7), 9);
        check.due("another self-parent", desk.inject(0, 1, 6, 0, 7), 10);
    }

    /** What is alike is looked at among all events, held or not; a sync looks at nothing. */
    private static void injectAndSyncAlike() {
        HashgraphDesk desk = desk(3);
        desk.sync(1, 0, 0);
        desk.sync(0, 1, 1);
        check.due("node 0 does not hold what node 1 made", desk.found(0, 4, 0), 0);
        check.illegalState("yet it is there", () -> desk.inject(0, 1, 1, 3, 1));
        desk.sync(1, 2, 2);
        check.due("one that node 1 alone holds", desk.inject(1, 0, 3, 4, 50), 6);
        check.illegalState("is there for node 2", () -> desk.inject(2, 0, 3, 4, 50));
        HashgraphDesk alike = desk(2);
        alike.sync(0, 1, 1);
        check.due("injected before", alike.inject(1, 0, 0, 2, 5), 3);
        check.due("made by sync all the same", alike.sync(1, 0, 5), 4);
        dueAlike(alike, 4, 3);
        check.due("they are a fork", alike.count(3), 1);
        alike.sync(0, 1, 6);
        check.due("a child of the one", alike.inject(1, 0, 3, 2, 8), 6);
        check.due("and of the other: another self-parent", alike.inject(1, 0, 4, 2, 8), 7);
        dueAlike(alike, 7, 6);
        check.due("node 0 goes on from what it made", alike.event(alike.sync(1, 0, 6), 1), 4);
        withTransactionsNothingIsAlike();
    }

    private static void dueAlike(HashgraphDesk desk, int x, int y) {
        for (int word = 0; word < 8; word++) {
            check.due("hash word " + word + " of " + x + " and " + y, desk.hash(x, word), desk.hash(y, word));
        }
    }

    private static void withTransactionsNothingIsAlike() {
        HashgraphDesk desk = desk(3);
        desk.submit(1, 0, 0);
        check.due("an event with a transaction", desk.event(desk.sync(0, 1, 5), 5), 1);
        desk.sync(1, 2, 6);
        check.due("the same without it", desk.inject(2, 1, 1, 0, 5), 5);
        check.illegalState("now it is there", () -> desk.inject(2, 1, 1, 0, 5));
    }

    private static void injectUpToTheLast() {
        HashgraphDesk desk = desk(2);
        desk.sync(1, 0, 1);
        for (int k = 3; k < 240; k++) {
            check.due("inject " + k, desk.inject(0, 1, 1, 0, k), k);
        }
        check.illegalState("there are 240, and it is there", () -> desk.inject(0, 1, 1, 0, 100));
        check.illegalArgument("there are 240, and self is by another", () -> desk.inject(0, 1, 0, 0, 100));
        check.outOfBounds("there are 240", () -> desk.inject(0, 1, 1, 0, 1000));
        check.due("none was added", desk.count(1), 240);
        check.due("forks", desk.count(3), 237 * 236 / 2);
        check.due("the last one is held", desk.found(0, 239, 0), 1);
    }

    /** Promise 6; the rounds of two nodes that speak in turn are worked out in FindingTest. */
    private static void event() {
        HashgraphDesk desk = desk(2);
        desk.submit(1, 0, 300);
        desk.submit(1, 1, 0);
        desk.sync(0, 1, 10);
        desk.sync(1, 0, 20);
        desk.sync(0, 1, 30);
        int[][] parts = {{0, -1, -1, 1, 1, 0, 2, 1}, {1, -1, -1, 1, 1, 0, 2, 1}, {1, 1, 0, 1, 0, 2, 2, 3},
            {0, 0, 2, 2, 1, 0, 2, 4}, {1, 2, 3, 2, 1, 0, 1, 5}};
        for (int x = 0; x < parts.length; x++) {
            for (int what = 0; what < 8; what++) {
                check.due("event(" + x + ", " + what + ")", desk.event(x, what), parts[x][what]);
            }
        }
        check.illegalArgument("what -1", () -> desk.event(0, -1));
        check.illegalArgument("what 8", () -> desk.event(0, 8));
        check.illegalArgument("what 8 of no event", () -> desk.event(5, 8));
        check.illegalArgument("the least of all", () -> desk.event(0, Integer.MIN_VALUE));
        check.outOfBounds("event 5", () -> desk.event(5, 0));
        check.outOfBounds("event -1", () -> desk.event(-1, 7));
        check.outOfBounds("the greatest of all", () -> desk.event(Integer.MAX_VALUE, 3));
    }

    private static void dueHash(HashgraphDesk desk, int x, int... words) {
        for (int word = 0; word < 8; word++) {
            check.due("hash(" + x + ", " + word + ")", desk.hash(x, word), words[word]);
        }
    }

    /** Promise 7: the words are those that another program's SHA-256 gives for the octets. */
    private static void hash() {
        HashgraphDesk desk = new HashgraphDesk();
        desk.sync(0, 1, -2);
        desk.submit(3, 2, 1000000);
        desk.submit(3, 3, 0);
        desk.submit(3, 0, 70000);
        desk.sync(1, 3, 0x0102030405060708L);
        dueHash(desk, 0, 0xd0800cd1, 0x5f8b8498, 0x23220f7a, 0x12fbaa66, 0x5fe426ed, 0x1ddb13b6, 0x0ecb89a5,
                0xd412c1de);
        dueHash(desk, 3, 0x5dfbad8a, 0xcd88ec01, 0x5549dfaf, 0x0af931ff, 0x2237b03a, 0x6bc89be5, 0xb8ad6227,
                0xee38a0df);
        dueHash(desk, 4, 0xbebb1034, 0xa8c01f20, 0x7a8e39bb, 0xd90fe10a, 0x10124add, 0xba436986, 0x1139e4c9,
                0x323f1d9b);
        dueHash(desk, 5, 0xe5fc619a, 0x91b14278, 0x02613be7, 0xd81fba4d, 0xf9c72a8f, 0x48aff60b, 0x22cde10f,
                0xe9c86929);
        check.outOfBounds("word 8", () -> desk.hash(0, 8));
        check.outOfBounds("word -1", () -> desk.hash(0, -1));
        check.outOfBounds("event 6", () -> desk.hash(6, 0));
        check.outOfBounds("event -1", () -> desk.hash(-1, 0));
        check.outOfBounds("neither", () -> desk.hash(Integer.MAX_VALUE, Integer.MAX_VALUE));
    }

    private static void hashOfExtremes() {
        HashgraphDesk desk = new HashgraphDesk();
        desk.sync(2, 0, 0);
        desk.inject(0, 2, 2, -1, Long.MAX_VALUE);
        dueHash(desk, 5, 0x741a6048, 0xc6eb42af, 0x4a507848, 0x0ef65950, 0x9e252c78, 0xe5a614a1, 0xf5feb34c,
                0xf22eaa7d);
    }

    /** Promise 8. */
    private static void sees() {
        HashgraphDesk desk = desk(3);
        desk.sync(0, 1, 1);
        desk.sync(1, 2, 2);
        String[] rows = {"10000", "01000", "00100", "11010", "11111"};
        for (int x = 0; x < 5; x++) {
            for (int y = 0; y < 5; y++) {
                check.due("sees(" + x + ", " + y + ")", desk.sees(x, y, false), rows[x].charAt(y) == '1');
            }
        }
        for (boolean strongly : new boolean[] {false, true}) {
            check.outOfBounds("x 5", () -> desk.sees(5, 0, strongly) ? 1 : 0);
            check.outOfBounds("x -1", () -> desk.sees(-1, 0, strongly) ? 1 : 0);
            check.outOfBounds("y 5", () -> desk.sees(0, 5, strongly) ? 1 : 0);
            check.outOfBounds("y -1", () -> desk.sees(0, -1, strongly) ? 1 : 0);
            check.outOfBounds("both", () -> desk.sees(Integer.MIN_VALUE, Integer.MAX_VALUE, strongly) ? 1 : 0);
        }
    }

    private static void seesNoForker() {
        HashgraphDesk desk = desk(4);
        desk.sync(0, 1, 1);
        int left = desk.inject(1, 0, 0, 1, 7);
        int right = desk.inject(1, 0, 0, 1, 8);
        int child = desk.inject(1, 0, left, 4, 9);
        check.isTrue("a child sees its side", desk.sees(child, left, false));
        check.isTrue("and not the other", !desk.sees(child, right, false));
        desk.sync(2, 1, 10);
        desk.sync(3, 1, 11);
        int onlyLeft = desk.inject(1, 2, 2, left, 11);
        check.isTrue("with one side alone all is seen", desk.sees(onlyLeft, left, false));
        int onlyRight = desk.inject(1, 3, 3, right, 12);
        int over = desk.inject(1, 3, onlyRight, child, 13);
        check.isTrue("with the other side, too", desk.sees(onlyRight, right, false));
        for (int y : new int[] {0, left, right, child}) {
            check.isTrue("with both sides " + y + " of the forker is not seen", !desk.sees(over, y, false));
        }
        check.isTrue("the others are", desk.sees(over, 1, false) && desk.sees(over, 3, false));
        check.isTrue("it is seen by itself", desk.sees(over, over, false));
        int own = desk.inject(1, 0, right, over, 14);
        check.isTrue("a forker that knows does not see itself", !desk.sees(own, own, false));
        check.isTrue("nor its past", !desk.sees(own, right, false));
        check.isTrue("but the others", desk.sees(own, over, false));
    }

    private static void stronglySees() {
        HashgraphDesk desk = desk(3);
        desk.sync(0, 1, 1);
        desk.sync(1, 2, 2);
        check.isTrue("all three lead to 0", desk.sees(4, 0, true));
        check.isTrue("two of three are not enough", !desk.sees(4, 1, true));
        check.isTrue("one is not", !desk.sees(3, 3, true));
        desk.sync(2, 0, 3);
        check.isTrue("now all three lead to 1", desk.sees(5, 1, true));
        check.isTrue("and to 3", desk.sees(5, 3, true));
        check.isTrue("two to 2", !desk.sees(5, 2, true));
        check.isTrue("nothing leads up", !desk.sees(0, 5, true));
        HashgraphDesk four = desk(4);
        four.sync(0, 1, 1);
        check.isTrue("two of four are not enough", !four.sees(4, 0, true));
        four.sync(1, 2, 2);
        check.isTrue("three of four are", four.sees(5, 0, true));
        check.isTrue("two are not", !four.sees(5, 1, true));
        HashgraphDesk six = desk(6);
        for (int k = 0; k < 4; k++) {
            six.sync(k, k + 1, k);
        }
        check.isTrue("four of six are not enough", !six.sees(8, 0, true));
        check.isTrue("five of six are", six.sees(9, 0, true));
    }

    /** Promise 15; settled rounds stand in FindingTest. */
    private static void count() {
        HashgraphDesk desk = desk(2);
        int[] first = {2, 2, 1, 0, 0, 0};
        for (int what = 0; what < 6; what++) {
            check.due("count(" + what + ") at first", desk.count(what), first[what]);
        }
        desk.submit(0, 1, 1);
        desk.submit(1, 1, 1);
        desk.submit(1, 1, 1);
        check.due("waiting", desk.count(5), 3);
        desk.sync(0, 1, 1);
        check.due("events", desk.count(1), 3);
        check.due("round still 1", desk.count(2), 1);
        check.due("waiting after a sync", desk.count(5), 1);
        desk.sync(1, 0, 2);
        check.due("round 2", desk.count(2), 2);
        desk.inject(1, 0, 0, -1, 1);
        check.due("one fork", desk.count(3), 1);
        desk.inject(1, 0, 0, -1, 2);
        check.due("three", desk.count(3), 3);
        desk.inject(1, 0, 4, -1, 3);
        check.due("a child forks with the other two, not with its parent", desk.count(3), 5);
        for (int what : new int[] {-1, 6, Integer.MAX_VALUE, Integer.MIN_VALUE}) {
            check.illegalArgument("count(" + what + ")", () -> desk.count(what));
        }
    }
}
