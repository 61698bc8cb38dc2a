/** Promises 10 to 13: two famous witnesses of one creator in a round are not unique. */
public final class TwinTest {
    private static final Check check = new Check();
    private static final Both both = new Both(check, "promise 10, twins", TwinRun.NODES);

    public static void main(String[] args) {
        for (int from = 0; from < TwinRun.HOLDER; from++) {
            both.sync(from, TwinRun.HOLDER, 0);
        }
        for (int step = 0; step < TwinRun.INJECTED.length; step++) {
            int[] parts = TwinRun.INJECTED[step];
            both.inject(TwinRun.HOLDER, parts[0], parts[1], parts[2], TwinRun.timeOf(step));
        }
        compare();
        goOn();
        compare();
        dueTwinReceived(TwinRun.FIRST_TWIN);
        dueTwinReceived(TwinRun.SECOND_TWIN);
        check.finish();
    }

    /** The honest six speak on. */
    private static void goOn() {
        int[] last = new int[6];
        for (Model.Event x : both.model.events) {
            if (x.creator < 6) {
                last[x.creator] = x.number;
            }
        }
        for (int step = TwinRun.INJECTED.length; both.size() < Runs.MOST_EVENTS; step++) {
            int creator = step % 6;
            last[creator] = both.inject(TwinRun.HOLDER, creator, last[creator], last[(step + 5) % 6],
                    TwinRun.timeOf(step));
        }
    }

    private static void compare() {
        Desk desk = both.desk;
        check.due("promise 6: round of the first twin", desk.event(TwinRun.FIRST_TWIN, 3), 2);
        check.due("promise 6: round of the second twin", desk.event(TwinRun.SECOND_TWIN, 3), 2);
        check.due("promise 10: fame of the first twin", desk.found(TwinRun.HOLDER, TwinRun.FIRST_TWIN, 1), 2);
        check.due("promise 10: fame of the second twin", desk.found(TwinRun.HOLDER, TwinRun.SECOND_TWIN, 1), 2);
        check.due("promise 10: fame of it for one who does not hold it", desk.found(0, TwinRun.FIRST_TWIN, 1), 0);
        check.isTrue("promise 12: an order is found", desk.order(TwinRun.HOLDER) > 0);
        both.compareNode(TwinRun.HOLDER);
    }

    /** The unique ones that receive it have it as an ancestor and see nothing of its creator, for they know both. */
    private static void dueTwinReceived(int twin) {
        Desk desk = both.desk;
        int round = desk.found(TwinRun.HOLDER, twin, 2);
        check.isTrue("promise 10: twin " + twin + " is received", round > 0);
        int unseeing = 0;
        for (int u = 0; u < both.size(); u++) {
            boolean isUnique = desk.event(u, 3) == round && desk.found(TwinRun.HOLDER, u, 1) == 3;
            unseeing += isUnique && !desk.sees(u, twin, false) ? 1 : 0;
        }
        check.isTrue("promise 10: twin " + twin + " is not seen by those that receive it", unseeing > 0);
    }
}
