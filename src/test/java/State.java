/** All that can be asked of a desk, as one text: two desks that answer alike have the same one. */
final class State {
    private static final int MOST_PAIRS = 1600;

    private interface Call {
        long answer();
    }

    private State() {
    }

    static String of(Desk desk) {
        StringBuilder text = new StringBuilder();
        int events = desk.count(1);
        int nodes = desk.count(0);
        for (int what = 0; what <= 5; what++) {
            text.append(desk.count(what)).append(' ');
        }
        for (int x = 0; x < events; x++) {
            addEvent(text, desk, x);
        }
        // Of many pairs some: a step without a divisor in common with the number of events meets all rows.
        int step = events * events <= MOST_PAIRS ? 1 : 37;
        for (int pair = 0; pair < events * events; pair += step) {
            addPair(text, desk, pair / events, pair % events);
        }
        for (int node = 0; node < nodes; node++) {
            addNode(text, desk, node);
        }
        return text.toString();
    }

    /** What comes when the desk is used on: what waits, what each node made last, and what it holds show then. */
    static String later(Desk desk) {
        StringBuilder text = new StringBuilder();
        int nodes = desk.count(0);
        // Each node makes three events, into which eight that wait go; then one that joins them, and a fourth event.
        addSyncs(text, desk, 3 * nodes);
        for (int node = 0; node < nodes; node++) {
            int asked = node;
            add(text, () -> desk.submit(asked, (asked + 1) % nodes, 77));
        }
        addSyncs(text, desk, nodes);
        add(text, () -> desk.inject(0, nodes - 1, nodes - 1, -1, 5));
        return text.append(of(desk)).toString();
    }

    private static void addSyncs(StringBuilder text, Desk desk, int syncs) {
        int nodes = desk.count(0);
        for (int step = 0; step < syncs; step++) {
            int from = step % nodes;
            long time = 5000 + step;
            add(text, () -> desk.sync(from, (from + 1) % nodes, time));
        }
    }

    private static void add(StringBuilder text, Call call) {
        text.append(' ');
        try {
            text.append(call.answer());
        } catch (RuntimeException refused) {
            text.append(refused.getClass().getSimpleName());
        }
    }

    private static void addEvent(StringBuilder text, Desk desk, int x) {
        text.append("\nevent ").append(x).append(':');
        for (int what = 0; what <= 7; what++) {
            text.append(' ').append(desk.event(x, what));
        }
        for (int word = 0; word < 8; word++) {
            text.append(' ').append(desk.hash(x, word));
        }
    }

    private static void addPair(StringBuilder text, Desk desk, int y, int x) {
        text.append("\npair ").append(y).append(", ").append(x).append(": ").append(desk.sees(y, x, false))
                .append(' ').append(desk.sees(y, x, true));
        add(text, () -> desk.vote(y, x));
    }

    private static void addNode(StringBuilder text, Desk desk, int node) {
        text.append("\nnode ").append(node).append(':');
        int length = desk.order(node);
        for (int k = 0; k < length; k++) {
            int x = desk.at(node, k);
            text.append(' ').append(x).append(' ').append(desk.stamp(node, x));
        }
        int events = desk.count(1);
        for (int x = 0; x < events; x++) {
            for (int what = 0; what <= 3; what++) {
                text.append(' ').append(desk.found(node, x, what));
            }
        }
        int nodes = desk.count(0);
        for (int account = 0; account < nodes; account++) {
            text.append(' ').append(desk.balance(node, account));
        }
    }
}
