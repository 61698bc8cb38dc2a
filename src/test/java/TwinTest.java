/** Promises 10 to 13: two famous witnesses of one creator in a round are not unique. */
public final class TwinTest {
    private static final Check check = new Check();

    public static void main(String[] args) {
        HashgraphDesk desk = new HashgraphDesk();
        desk.begin(TwinRun.NODES);
        Model model = new Model(TwinRun.NODES);
        for (int from = 0; from < TwinRun.HOLDER; from++) {
            check.due("sync", desk.sync(from, TwinRun.HOLDER, 0), model.sync(from, TwinRun.HOLDER, 0));
        }
        for (int step = 0; step < TwinRun.INJECTED.length; step++) {
            int[] parts = TwinRun.INJECTED[step];
            long time = TwinRun.timeOf(step);
            check.due("inject", desk.inject(TwinRun.HOLDER, parts[0], parts[1], parts[2], time),
                    model.inject(TwinRun.HOLDER, parts[0], parts[1], parts[2], time));
        }
        compareFame(desk, model);
        compareOrder(desk, model);
        check.finish();
    }

    private static void compareFame(HashgraphDesk desk, Model model) {
        check.due("round of the first twin", desk.event(TwinRun.FIRST_TWIN, 3), 2);
        check.due("round of the second twin", desk.event(TwinRun.SECOND_TWIN, 3), 2);
        check.due("fame of the first twin", desk.found(TwinRun.HOLDER, TwinRun.FIRST_TWIN, 1), 2);
        check.due("fame of the second twin", desk.found(TwinRun.HOLDER, TwinRun.SECOND_TWIN, 1), 2);
        check.due("fame of it for one who does not hold it", desk.found(0, TwinRun.FIRST_TWIN, 1), 0);
        for (Model.Event x : model.events) {
            check.due("fame of " + x.number, desk.found(TwinRun.HOLDER, x.number, 1), model.fame(TwinRun.HOLDER, x));
        }
    }

    private static void compareOrder(HashgraphDesk desk, Model model) {
        Model.Finding finding = model.new Finding(TwinRun.HOLDER);
        check.isTrue("an order is found", finding.order.size() > 0);
        check.due("order", desk.order(TwinRun.HOLDER), finding.order.size());
        for (int k = 0; k < finding.order.size(); k++) {
            Model.Event x = finding.order.get(k);
            check.due("at " + k, desk.at(TwinRun.HOLDER, k), x.number);
            check.due("stamp of " + x.number, desk.stamp(TwinRun.HOLDER, x.number), finding.stamps.get(x));
            check.due("round that receives " + x.number, desk.found(TwinRun.HOLDER, x.number, 2),
                    finding.received.get(x));
        }
    }
}
