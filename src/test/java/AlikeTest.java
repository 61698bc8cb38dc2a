/**
 * Promise 12: two events with the same hash, the same stamp and received in the same round stand by their numbers.
 * Node 7 injects an event of node 0, then node 0 makes the very same by sync(). Node 1 hears of both at one time and
 * tells nodes 2 to 6, all of whose events node 7 injects: six of eight are enough for rounds.
 */
public final class AlikeTest {
    private static final int NODES = 8;
    private static final int HOLDER = 7;

    private static final Check check = new Check();
    private static final HashgraphDesk desk = new HashgraphDesk();
    private static final Model model = new Model(NODES);

    public static void main(String[] args) {
        desk.begin(NODES);
        for (int from = 0; from < HOLDER; from++) {
            sync(from, HOLDER, 0);
        }
        int injected = inject(0, 0, 1, 5);
        int made = desk.count(1);
        sync(1, 0, 5);
        sync(0, HOLDER, 6);
        int[] last = {0, 1, 2, 3, 4, 5, 6};
        last[1] = inject(1, last[1], injected, 9);
        last[1] = inject(1, last[1], made, 9);
        for (int k = 0; desk.count(1) < 240; k++) {
            int creator = 1 + (k + 1) % 6;
            last[creator] = inject(creator, last[creator], last[1 + k % 6], 10 + k);
        }
        compare(injected, made);
        check.finish();
    }

    private static void sync(int from, int to, long time) {
        check.due("sync", desk.sync(from, to, time), model.sync(from, to, time));
    }

    private static int inject(int creator, int self, int other, long time) {
        int made = desk.inject(HOLDER, creator, self, other, time);
        check.due("inject", made, model.inject(HOLDER, creator, self, other, time));
        return made;
    }

    private static void compare(int injected, int made) {
        for (int word = 0; word < 8; word++) {
            check.due("hash word " + word, desk.hash(made, word), desk.hash(injected, word));
        }
        check.isTrue("both are received", desk.found(HOLDER, made, 2) > 0);
        check.due("in one round", desk.found(HOLDER, made, 2), desk.found(HOLDER, injected, 2));
        check.due("with one stamp", desk.stamp(HOLDER, made), desk.stamp(HOLDER, injected));
        check.due("the lesser number first", desk.found(HOLDER, made, 3), desk.found(HOLDER, injected, 3) + 1);
        Model.Finding finding = model.new Finding(HOLDER);
        check.due("order", desk.order(HOLDER), finding.order.size());
        for (int k = 0; k < finding.order.size(); k++) {
            check.due("at " + k, desk.at(HOLDER, k), finding.order.get(k).number);
        }
    }
}
