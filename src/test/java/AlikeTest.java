/**
 * Promise 12: two events with the same hash, the same stamp and received in the same round stand by their numbers.
 * Node 7 injects an event of node 0, then node 0 makes the very same by sync(). Node 1 hears of both at one time and
 * tells nodes 2 to 6, all of whose events node 7 injects: six of eight are enough for rounds.
 */
public final class AlikeTest {
    private static final int NODES = 8;
    private static final int HOLDER = 7;

    private static final Check check = new Check();
    private static final Both both = new Both(check, "promise 12, alike", NODES);

    public static void main(String[] args) {
        for (int from = 0; from < HOLDER; from++) {
            both.sync(from, HOLDER, 0);
        }
        int injected = both.inject(HOLDER, 0, 0, 1, 5);
        int made = both.size();
        both.sync(1, 0, 5);
        both.sync(0, HOLDER, 6);
        int[] last = {0, 1, 2, 3, 4, 5, 6};
        last[1] = both.inject(HOLDER, 1, last[1], injected, 9);
        last[1] = both.inject(HOLDER, 1, last[1], made, 9);
        for (int k = 0; both.size() < Runs.MOST_EVENTS; k++) {
            int creator = 1 + (k + 1) % 6;
            last[creator] = both.inject(HOLDER, creator, last[creator], last[1 + k % 6], 10 + k);
        }
        compare(injected, made);
        check.finish();
    }

    private static void compare(int injected, int made) {
        Desk desk = both.desk;
        for (int word = 0; word < 8; word++) {
            check.due("promise 7: hash word " + word, desk.hash(made, word), desk.hash(injected, word));
        }
        check.isTrue("promise 10: both are received", desk.found(HOLDER, made, 2) > 0);
        check.due("promise 10: in one round", desk.found(HOLDER, made, 2), desk.found(HOLDER, injected, 2));
        check.due("promise 11: with one stamp", desk.stamp(HOLDER, made), desk.stamp(HOLDER, injected));
        check.due("promise 12: the lesser number first", desk.found(HOLDER, made, 3),
                desk.found(HOLDER, injected, 3) + 1);
        both.compareNode(HOLDER);
    }
}
