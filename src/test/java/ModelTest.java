import java.util.Arrays;

/** Promises 1 to 15: long runs of gossip, with forks and without, compared with the model's answers. */
public final class ModelTest {
    private static final int RUNS = 84;

    private static final Check check = new Check();

    private static int clearCoins;
    private static int tossedCoins;
    private static int votesWithoutElectors;
    private static int forks;
    private static int alike;
    private static int deniedWitnesses;
    private static int equalStamps;
    private static int refusedPayments;

    public static void main(String[] args) {
        for (int run = 0; run < RUNS; run++) {
            go(run);
        }
        tellAndCheckThatRareThingsCameUp();
        check.finish();
    }

    private static void tellAndCheckThatRareThingsCameUp() {
        System.out.println("  coins: " + clearCoins + " clear, " + tossedCoins + " tossed; votes without electors: "
                + votesWithoutElectors + "; forks: " + forks + "; hashes alike: " + alike
                + "; witnesses not famous: " + deniedWitnesses + "; equal stamps: " + equalStamps
                + "; runs with payments refused: " + refusedPayments);
        check.isTrue("clear coins came up", clearCoins > 0);
        check.isTrue("tossed coins came up", tossedCoins > 0);
        check.isTrue("votes without electors came up", votesWithoutElectors > 0);
        check.isTrue("forks came up", forks > 0);
        check.isTrue("hashes alike came up", alike > 0);
        check.isTrue("witnesses that are not famous came up", deniedWitnesses > 0);
        check.isTrue("equal stamps came up", equalStamps > 0);
        check.isTrue("refused payments came up", refusedPayments > 0);
    }

    /** Every second desk has lived before it begins anew. */
    private static void go(int run) {
        int n = 2 + run % 7;
        int style = run / 7 % Gossip.STYLES;
        String name = "run " + run + " (" + n + " nodes, style " + style + ")";
        Desk desk = new Desk();
        if (run % 2 == 1) {
            Runs.makeBusy(desk);
        }
        Both both = new Both(check, name, n, desk);
        Gossip gossip = new Gossip(check, name, style, 1000 + run, 60 + run * 97 % 180, both);
        while (!gossip.isOver()) {
            gossip.goOn();
            if (gossip.random(12) == 0) {
                both.compareNode(gossip.random(n));
            }
            if (gossip.random(60) == 0) {
                both.compareEvents();
                both.comparePairs(11, gossip.random(11));
            }
        }
        both.compareEvents();
        both.comparePairs(5, gossip.random(5));
        both.compareNodes();
        both.compareCounts();
        noteRareThings(both);
    }

    private static void noteRareThings(Both both) {
        Model model = both.model;
        clearCoins += model.clearCoins;
        tossedCoins += model.tossedCoins;
        votesWithoutElectors += model.votesWithoutElectors;
        forks += model.forks();
        for (int node = 0; node < both.n; node++) {
            noteRareThings(model.new Finding(node));
        }
        for (Model.Event x : model.events) {
            for (Model.Event y : model.events) {
                alike += x.number < y.number && Arrays.equals(x.hash, y.hash) ? 1 : 0;
            }
        }
    }

    private static void noteRareThings(Model.Finding finding) {
        for (int fame : finding.fame.values()) {
            deniedWitnesses += fame == 1 ? 1 : 0;
        }
        int spent = 0;
        for (int k = 0; k < finding.order.size(); k++) {
            Model.Event x = finding.order.get(k);
            spent += x.transactions.size();
            if (k > 0) {
                Model.Event before = finding.order.get(k - 1);
                equalStamps += finding.received.get(x).equals(finding.received.get(before))
                        && finding.stamps.get(x).equals(finding.stamps.get(before)) ? 1 : 0;
            }
        }
        refusedPayments += spent - finding.paid > 0 ? 1 : 0;
    }
}
