import java.util.List;

/** A desk and the model, on which the same calls are made, to compare what they answer. */
final class Both {
    final int n;
    final Desk desk;
    final Model model;
    private final Check check;
    private final String name;

    Both(Check check, String name, int n) {
        this(check, name, n, new Desk());
    }

    Both(Check check, String name, int n, Desk desk) {
        this.check = check;
        this.name = name + ": ";
        this.n = n;
        this.desk = desk;
        desk.begin(n);
        model = new Model(n);
    }

    int submit(int node, int to, int amount) {
        int due = model.submit(node, to, amount);
        check.due(name + "submit(" + node + ", " + to + ", " + amount + ")", desk.submit(node, to, amount), due);
        return due;
    }

    int sync(int from, int to, long time) {
        int due = model.sync(from, to, time);
        check.due(name + "sync(" + from + ", " + to + ", " + time + ")", desk.sync(from, to, time), due);
        return due;
    }

    int inject(int node, int creator, int self, int other, long time) {
        int due = model.inject(node, creator, self, other, time);
        check.due(name + "inject(" + node + ", " + creator + ", " + self + ", " + other + ", " + time + ")",
                desk.inject(node, creator, self, other, time), due);
        return due;
    }

    int size() {
        return model.events.size();
    }

    void compareAll() {
        comparePairs(1, 0);
        compareEvents();
        compareNodes();
        compareCounts();
    }

    void compareEvents() {
        for (Model.Event x : model.events) {
            compareParts(x);
            compareHash(x.number);
        }
    }

    void compareNodes() {
        for (int node = 0; node < n; node++) {
            compareNode(node);
        }
    }

    void compareCounts() {
        int waiting = 0;
        for (List<int[]> queue : model.waiting) {
            waiting += queue.size();
        }
        int settled = model.new Finding(0).settled.size();
        int[] counts = {n, model.events.size(), model.greatestRound(), model.forks(), settled, waiting};
        for (int what = 0; what < counts.length; what++) {
            check.due(name + "count(" + what + ")", desk.count(what), counts[what]);
        }
    }

    /** Of all pairs of events every step-th, the first of them at an offset. */
    void comparePairs(int step, int offset) {
        int events = model.events.size();
        for (int pair = offset % step; pair < events * events; pair += step) {
            Model.Event x = model.events.get(pair / events);
            Model.Event y = model.events.get(pair % events);
            String call = "(" + x.number + ", " + y.number;
            check.due(name + "sees" + call + ", false)", desk.sees(x.number, y.number, false), x.seen.contains(y));
            check.due(name + "sees" + call + ", true)", desk.sees(x.number, y.number, true),
                    x.stronglySeen.contains(y));
            compareVote(x, y);
        }
    }

    private void compareVote(Model.Event y, Model.Event x) {
        String call = name + "vote(" + y.number + ", " + x.number + ")";
        if (y.isWitness && x.isWitness && y.round > x.round) {
            check.due(call, desk.vote(y.number, x.number), model.vote(y, x));
        } else {
            check.illegalArgument(call, () -> desk.vote(y.number, x.number));
        }
    }

    private void compareParts(Model.Event x) {
        int holders = 0;
        for (int node = 0; node < n; node++) {
            holders += model.held.get(node).contains(x) ? 1 : 0;
        }
        int[] parts = {x.creator, Model.numberOf(x.self), Model.numberOf(x.other), x.round, x.isWitness ? 1 : 0,
            x.transactions.size(), holders, x.ancestors.size()};
        for (int what = 0; what < parts.length; what++) {
            check.due(name + "event(" + x.number + ", " + what + ")", desk.event(x.number, what), parts[what]);
        }
    }

    void compareHash(int x) {
        for (int word = 0; word < 8; word++) {
            check.due(name + "hash(" + x + ", " + word + ")", desk.hash(x, word), model.hashWord(x, word));
        }
    }

    void compareNode(int node) {
        Model.Finding finding = model.new Finding(node);
        for (Model.Event x : model.events) {
            String call = name + "found(" + node + ", " + x.number + ", ";
            boolean isHeld = model.held.get(node).contains(x);
            int[] due = {isHeld ? 1 : 0, isHeld ? finding.fame.get(x) : 0, finding.received.getOrDefault(x, 0),
                finding.order.indexOf(x)};
            for (int what = 0; what < due.length; what++) {
                check.due(call + what + ")", desk.found(node, x.number, what), due[what]);
            }
            compareStamp(node, x, finding.stamps.get(x));
        }
        compareOrder(node, finding);
    }

    private void compareStamp(int node, Model.Event x, Long stamp) {
        String call = name + "stamp(" + node + ", " + x.number + ")";
        if (stamp == null) {
            check.unsupported(call, () -> desk.stamp(node, x.number));
        } else {
            check.due(call, desk.stamp(node, x.number), stamp);
        }
    }

    private void compareOrder(int node, Model.Finding finding) {
        int length = finding.order.size();
        check.due(name + "order(" + node + ")", desk.order(node), length);
        for (int k = 0; k < length; k++) {
            check.due(name + "at(" + node + ", " + k + ")", desk.at(node, k), finding.order.get(k).number);
        }
        for (int account = 0; account < n; account++) {
            check.due(name + "balance(" + node + ", " + account + ")", desk.balance(node, account),
                    finding.balances[account]);
        }
    }
}
