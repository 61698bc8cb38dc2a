/** Promises 10 to 13: two famous witnesses of one creator in a round are not unique. */
public final class TwinTest {
    private static final Check check = new Check();

    public static void main(String[] args) {
        HashgraphDesk desk = new HashgraphDesk();
        desk.begin(TwinRun.NODES);
        Model model = new Model(TwinRun.NODES);
        for (int from = 0; from < TwinRun.HOLDER; from++) {
            check.due("sync", desk.sync(from, TwinRun.HOLDER, 0), model.sync(from, TwinRun.HOLDER, 0));
        }
        for (int step = 0; step < TwinRun.INJECTED.length; step++) {
            int[] parts = TwinRun.INJECTED[step];
            long time = TwinRun.timeOf(step);
            check.due("inject", desk.inject(TwinRun.HOLDER, parts[0], parts[1], parts[2], time),
                    model.inject(TwinRun.HOLDER, parts[0], parts[1], parts[2], time));
        }
        compareFame(desk, model);
        compareOrder(desk, model);
        goOn(desk, model);
        compareFame(desk, model);
        compareOrder(desk, model);
        dueTwinReceived(desk, TwinRun.FIRST_TWIN);
        dueTwinReceived(desk, TwinRun.SECOND_TWIN);
        check.finish();
    }

    /** The honest six speak on. */
    private static void goOn(HashgraphDesk desk, Model model) {
        int[] last = new int[6];
        for (int x = 0; x < desk.count(1); x++) {
            if (desk.event(x, 0) < 6) {
                last[desk.event(x, 0)] = x;
            }
        }
        for (int step = TwinRun.INJECTED.length; desk.count(1) < 240; step++) {
            int creator = step % 6;
            int other = last[(step + 5) % 6];
            int made = desk.inject(TwinRun.HOLDER, creator, last[creator], other, TwinRun.timeOf(step));
            check.due("inject", made,
                    model.inject(TwinRun.HOLDER, creator, last[creator], other, TwinRun.timeOf(step)));
            last[creator] = made;
        }
    }

    /** The unique ones that receive it have it as an ancestor and see nothing of its creator, for they know both. */
    private static void dueTwinReceived(HashgraphDesk desk, int twin) {
        int round = desk.found(TwinRun.HOLDER, twin, 2);
        check.isTrue("twin " + twin + " is received", round > 0);
        int unseeing = 0;
        for (int u = 0; u < desk.count(1); u++) {
            boolean isUnique = desk.event(u, 3) == round && desk.found(TwinRun.HOLDER, u, 1) == 3;
            unseeing += isUnique && !desk.sees(u, twin, false) ? 1 : 0;
        }
        check.isTrue("twin " + twin + " is not seen by those that receive it", unseeing > 0);
    }

    private static void compareFame(HashgraphDesk desk, Model model) {
        check.due("round of the first twin", desk.event(TwinRun.FIRST_TWIN, 3), 2);
        check.due("round of the second twin", desk.event(TwinRun.SECOND_TWIN, 3), 2);
        check.due("fame of the first twin", desk.found(TwinRun.HOLDER, TwinRun.FIRST_TWIN, 1), 2);
        check.due("fame of the second twin", desk.found(TwinRun.HOLDER, TwinRun.SECOND_TWIN, 1), 2);
        check.due("fame of it for one who does not hold it", desk.found(0, TwinRun.FIRST_TWIN, 1), 0);
        for (Model.Event x : model.events) {
            check.due("fame of " + x.number, desk.found(TwinRun.HOLDER, x.number, 1), model.fame(TwinRun.HOLDER, x));
        }
    }

    private static void compareOrder(HashgraphDesk desk, Model model) {
        Model.Finding finding = model.new Finding(TwinRun.HOLDER);
        check.isTrue("an order is found", finding.order.size() > 0);
        check.due("order", desk.order(TwinRun.HOLDER), finding.order.size());
        for (int k = 0; k < finding.order.size(); k++) {
            Model.Event x = finding.order.get(k);
            check.due("at " + k, desk.at(TwinRun.HOLDER, k), x.number);
            check.due("stamp of " + x.number, desk.stamp(TwinRun.HOLDER, x.number), finding.stamps.get(x));
            check.due("round that receives " + x.number, desk.found(TwinRun.HOLDER, x.number, 2),
                    finding.received.get(x));
        }
    }
}
