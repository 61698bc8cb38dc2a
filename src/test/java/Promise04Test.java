/** Promise 4: sync() tells all and makes an event. */
public final class Promise04Test {
    private static final String PROMISE = "promise 4";

    private static final Check check = new Check();

    public static void main(String[] args) {
        numbersInTurn();
        firstEventsAsParents();
        latestOnesAsParents();
        injectedOnesAreNoParents();
        getsAllThatIsHeld();
        getsNothingNew();
        onlyToHoldsIt();
        transactionsFromNoneToMany();
        transactionsOfTheReceiver();
        timesOfAllKinds();
        alikeAnInjectedOne();
        lastEventAndNoMore();
        refusedArguments();
        refusedWithAllEvents();
        check.finish();
    }

    private static void numbersInTurn() {
        for (int n = 2; n <= 8; n++) {
            Desk desk = new Desk(n);
            check.due(PROMISE + ": first of " + n, desk.sync(0, n - 1, 1), n);
            check.due(PROMISE + ": second of " + n, desk.sync(n - 1, 0, 1), n + 1);
        }
    }

    private static void dueParents(Desk desk, int x, int self, int other) {
        check.due(PROMISE + ": self-parent of " + x, desk.event(x, 1), self);
        check.due(PROMISE + ": other-parent of " + x, desk.event(x, 2), other);
    }

    private static void firstEventsAsParents() {
        Desk desk = new Desk(3);
        desk.sync(0, 1, 1);
        dueParents(desk, 3, 1, 0);
        desk.sync(2, 0, 1);
        dueParents(desk, 4, 0, 2);
    }

    private static void latestOnesAsParents() {
        Desk desk = new Desk(3);
        desk.sync(0, 1, 1);
        desk.sync(1, 2, 2);
        desk.sync(1, 0, 3);
        desk.sync(0, 1, 4);
        desk.sync(0, 1, 4);
        dueParents(desk, 4, 2, 3);
        dueParents(desk, 5, 0, 3);
        dueParents(desk, 6, 3, 5);
        dueParents(desk, 7, 6, 5);
    }

    /** The latest "that it made by sync()": neither the creator nor one who holds it takes an injected one. */
    private static void injectedOnesAreNoParents() {
        Desk desk = new Desk(3);
        desk.sync(0, 1, 1);
        check.due(PROMISE + ": injected", desk.inject(1, 0, 0, 3, 5), 4);
        desk.sync(0, 2, 2);
        dueParents(desk, 5, 2, 0);
        desk.sync(1, 0, 3);
        dueParents(desk, 6, 0, 3);
        desk.inject(1, 0, 4, 3, 6);
        desk.sync(0, 1, 4);
        dueParents(desk, 8, 3, 6);
    }

    private static void dueHolders(Desk desk, int x, String holders) {
        for (int node = 0; node < holders.length(); node++) {
            check.due(PROMISE + ": found(" + node + ", " + x + ", 0)", desk.found(node, x, 0),
                    holders.charAt(node) - '0');
        }
    }

    private static void getsAllThatIsHeld() {
        Desk desk = new Desk(4);
        desk.sync(0, 1, 1);
        desk.inject(1, 0, 0, 1, 5);
        desk.sync(2, 1, 2);
        desk.inject(1, 2, 2, -1, 6);
        desk.sync(1, 3, 3);
        for (int x = 0; x < desk.count(1) - 1; x++) {
            check.due(PROMISE + ": node 3 holds " + x, desk.found(3, x, 0), 1);
        }
        dueHolders(desk, 0, "1101");
        dueHolders(desk, 1, "0101");
        dueHolders(desk, 2, "0111");
        dueHolders(desk, 3, "0001");
    }

    private static void getsNothingNew() {
        Desk desk = new Desk(3);
        desk.sync(0, 1, 1);
        check.due(PROMISE + ": an event though nothing is new", desk.sync(0, 1, 1), 4);
        dueHolders(desk, 0, "110");
        dueHolders(desk, 2, "001");
        check.isTrue(PROMISE + ": another hash, for it has another self-parent", desk.hash(3, 0) != desk.hash(4, 0));
    }

    private static void onlyToHoldsIt() {
        Desk desk = new Desk(3);
        desk.sync(0, 1, 1);
        dueHolders(desk, 3, "010");
        dueHolders(desk, 1, "010");
        check.due(PROMISE + ": one holder", desk.event(3, 6), 1);
    }

    /** Up to 3 of those that wait, the first ones. */
    private static void transactionsFromNoneToMany() {
        for (int waiting = 0; waiting <= 8; waiting++) {
            Both both = new Both(check, PROMISE + ", " + waiting + " wait", 2);
            for (int k = 0; k < waiting; k++) {
                both.submit(1, k % 2, 10 + k);
            }
            for (int left = waiting, k = 0; k < 4; k++) {
                int x = both.sync(0, 1, k);
                int due = Math.min(left, 3);
                left -= due;
                check.due(PROMISE + ": of " + waiting + " event " + x + " takes", both.desk.event(x, 5), due);
                check.due(PROMISE + ": of " + waiting + " then wait", both.desk.count(5), left);
                both.compareHash(x);
            }
        }
    }

    private static void transactionsOfTheReceiver() {
        Desk desk = new Desk(3);
        desk.submit(0, 1, 5);
        desk.submit(2, 1, 5);
        check.due(PROMISE + ": none of the sender's, none of a third one's", desk.event(desk.sync(0, 1, 1), 5), 0);
        check.due(PROMISE + ": they wait on", desk.count(5), 2);
        check.due(PROMISE + ": its own", desk.event(desk.sync(1, 0, 1), 5), 1);
        check.due(PROMISE + ": the third one's waits on", desk.count(5), 1);
    }

    /** Any long, the same twice or less than the time of a parent. */
    private static void timesOfAllKinds() {
        Both both = new Both(check, PROMISE, 3);
        long[] times = {0, 1, -1, Integer.MAX_VALUE, 1L << 31, 1L << 32, -1L << 32, Long.MAX_VALUE, Long.MIN_VALUE,
            Long.MIN_VALUE, 7};
        for (int k = 0; k < times.length; k++) {
            both.sync(k % 3, (k + 1) % 3, times[k]);
        }
        both.compareAll();
    }

    /** "Also if there is an event with the same hash; only to holds it". */
    private static void alikeAnInjectedOne() {
        Desk desk = new Desk(3);
        desk.sync(0, 1, 1);
        int injected = desk.inject(1, 0, 0, 3, 5);
        int made = desk.sync(1, 0, 5);
        check.due(PROMISE + ": a number of its own", made, injected + 1);
        for (int word = 0; word < 8; word++) {
            check.due(PROMISE + ": the same hash, word " + word, desk.hash(made, word), desk.hash(injected, word));
        }
        dueHolders(desk, injected, "110");
        dueHolders(desk, made, "100");
        check.due(PROMISE + ": the latest of node 0 is the one that it made", desk.event(desk.sync(0, 2, 6), 2), made);
        Desk transactions = new Desk(2);
        transactions.sync(0, 1, 1);
        transactions.submit(0, 1, 0);
        int other = transactions.inject(1, 0, 0, 2, 5);
        int own = transactions.sync(1, 0, 5);
        check.isTrue(PROMISE + ": with a transaction it is another", !sameHash(transactions, other, own));
    }

    private static boolean sameHash(Desk desk, int x, int y) {
        for (int word = 0; word < 8; word++) {
            if (desk.hash(x, word) != desk.hash(y, word)) {
                return false;
            }
        }
        return true;
    }

    private static void lastEventAndNoMore() {
        for (int n : new int[] {2, 5, 8}) {
            Desk desk = new Desk(n);
            for (int k = n; k < 239; k++) {
                desk.sync(k % n, (k + 1) % n, k);
            }
            check.due(PROMISE + ": the last event", desk.sync(0, 1, 7), 239);
            check.due(PROMISE + ": there are 240", desk.count(1), 240);
            check.outOfBounds(PROMISE + ": none more", () -> desk.sync(0, 1, 7));
            check.outOfBounds(PROMISE + ": nor by another", () -> desk.sync(1, 0, 8));
            check.due(PROMISE + ": there are still 240", desk.count(1), 240);
            check.due(PROMISE + ": the last one stands", desk.event(239, 0), 1);
        }
    }

    private static void tryArguments(Refusals refused, int n) {
        refused.illegalArgument("from -1", desk -> desk.sync(-1, 0, 1));
        refused.illegalArgument("from " + n, desk -> desk.sync(n, 0, 1));
        refused.illegalArgument("to -1", desk -> desk.sync(0, -1, 1));
        refused.illegalArgument("to " + n, desk -> desk.sync(0, n, 1));
        for (int node = 0; node < n; node++) {
            int same = node;
            refused.illegalArgument("from and to " + node, desk -> desk.sync(same, same, 1));
        }
        for (int node : Edges.outside(0, n - 1)) {
            refused.illegalArgument("from " + node, desk -> desk.sync(node, n - 1, 1));
            refused.illegalArgument("to " + node, desk -> desk.sync(n - 1, node, 1));
            refused.illegalArgument("from and to " + node, desk -> desk.sync(node, node, 1));
        }
    }

    private static void refusedArguments() {
        for (int n : new int[] {2, 4, 8}) {
            Refusals refused = new Refusals(check, PROMISE + ", " + n + " nodes", desk -> {
                desk.begin(n);
                desk.submit(0, 1, 5);
                desk.submit(n - 1, 0, 5);
                desk.sync(0, 1, 1);
            });
            tryArguments(refused, n);
            refused.changedNothing();
        }
    }

    /** The arguments stand before the 240 events; who is refused gets nothing and its transactions wait on. */
    private static void refusedWithAllEvents() {
        Refusals refused = new Refusals(check, PROMISE + ", 240 events", desk -> {
            desk.begin(5);
            desk.submit(0, 1, 5);
            for (int k = 5; k < 240; k++) {
                desk.sync(1 + k % 3, 1 + (k + 1) % 3, k);
            }
        });
        refused.outOfBounds("to one that held little", desk -> desk.sync(1, 0, 7));
        refused.outOfBounds("from one that held little", desk -> desk.sync(4, 1, 7));
        tryArguments(refused, 5);
        refused.changedNothing();
    }
}
