import java.util.ArrayList;
import java.util.List;

/**
 * A HashgraphDesk for tests that ask much. The document promises nothing after the 512th call of an object: then a new
 * one is made, and all calls that may change something are made on it once more, refused ones too.
 */
final class Desk {
    static final int MOST_CALLS = 512;

    private interface Change {
        long on(HashgraphDesk desk);
    }

    private final List<Change> changes = new ArrayList<>();
    private HashgraphDesk object = new HashgraphDesk();
    private int calls;

    Desk() {
    }

    Desk(int n) {
        begin(n);
    }

    void begin(int n) {
        change(desk -> {
            desk.begin(n);
            return 0;
        });
    }

    int submit(int node, int to, int amount) {
        return (int) change(desk -> desk.submit(node, to, amount));
    }

    int sync(int from, int to, long time) {
        return (int) change(desk -> desk.sync(from, to, time));
    }

    int inject(int node, int creator, int self, int other, long time) {
        return (int) change(desk -> desk.inject(node, creator, self, other, time));
    }

    int event(int x, int what) {
        return next().event(x, what);
    }

    int hash(int x, int word) {
        return next().hash(x, word);
    }

    boolean sees(int x, int y, boolean strongly) {
        return next().sees(x, y, strongly);
    }

    int vote(int y, int x) {
        return next().vote(y, x);
    }

    int found(int node, int x, int what) {
        return next().found(node, x, what);
    }

    long stamp(int node, int x) {
        return next().stamp(node, x);
    }

    int order(int node) {
        return next().order(node);
    }

    int at(int node, int k) {
        return next().at(node, k);
    }

    int balance(int node, int account) {
        return next().balance(node, account);
    }

    int count(int what) {
        return next().count(what);
    }

    private long change(Change change) {
        HashgraphDesk desk = next();
        changes.add(change);
        return change.on(desk);
    }

    private HashgraphDesk next() {
        if (calls == MOST_CALLS) {
            renew();
        }
        calls++;
        return object;
    }

    private void renew() {
        if (changes.size() >= MOST_CALLS) {
            throw new AssertionError("a test changes one desk " + changes.size() + " times");
        }
        object = new HashgraphDesk();
        calls = changes.size();
        for (Change change : changes) {
            try {
                change.on(object);
            } catch (RuntimeException refused) {
                // It was refused the first time, too.
            }
        }
    }
}
