/** Promise 9: vote() tells the vote of a witness on one of a lesser round, and whether it decides. */
public final class Promise09Test {
    private static final String PROMISE = "promise 9";

    private static final Check check = new Check();

    public static void main(String[] args) {
        yesByAll();
        noByAll();
        noOverManyRounds();
        aRoundAboveAndNoLess();
        firstAndLastEvent();
        refusedNumbers();
        refusedEvents();
        numbersBeforeWitnesses();
        check.finish();
    }

    /** Two nodes in turn: each sees all. One round on nothing is decided, and four, eight .. rounds on neither. */
    private static void yesByAll() {
        Desk desk = Runs.inTurn(40);
        for (int y = 3; y < 40; y++) {
            for (int x = 0; x < 40; x++) {
                int distance = desk.event(y, 3) - desk.event(x, 3);
                if (x != 2 && distance > 0) {
                    boolean decides = distance != 1 && distance % 4 != 0;
                    check.due(PROMISE + ": vote(" + y + ", " + x + ")", desk.vote(y, x), decides ? 3 : 1);
                }
            }
        }
    }

    /** Nobody hears of event 2; a coin that is clear is no coin. */
    private static void noByAll() {
        Desk desk = Runs.threeWithoutOne();
        int[] some = new int[9];
        for (int y = 0; y < desk.count(1); y++) {
            int distance = desk.event(y, 3) - 1;
            if (desk.event(y, 4) == 1 && distance > 0 && distance < some.length) {
                boolean decides = distance != 1 && distance % 4 != 0;
                check.due(PROMISE + ": vote(" + y + ", 2)", desk.vote(y, 2), decides ? 2 : 0);
                some[distance]++;
            }
        }
        for (int distance = 1; distance < some.length; distance++) {
            check.isTrue(PROMISE + ": witnesses " + distance + " rounds on", some[distance] > 0);
        }
    }

    /** Event 6 is a twin of event 5, of round 3, and nobody's parent: up to 116 rounds on all say no. */
    private static void noOverManyRounds() {
        Desk desk = Runs.inTurn(6);
        check.due(PROMISE + ": the twin", desk.inject(1, 0, 3, 4, 7), 6);
        check.due(PROMISE + ": its round", desk.event(6, 3), 3);
        Runs.goOnInTurn(desk, 240);
        int last = 0;
        for (int y = 7; y < 240; y++) {
            int distance = desk.event(y, 3) - 3;
            if (desk.event(y, 4) == 1 && distance > 0) {
                boolean decides = distance != 1 && distance % 4 != 0;
                check.due(PROMISE + ": vote(" + y + ", 6)", desk.vote(y, 6), decides ? 2 : 0);
                last = Math.max(last, distance);
            }
        }
        check.due(PROMISE + ": rounds above the twin", last, 116);
    }

    private static void aRoundAboveAndNoLess() {
        Desk desk = Runs.inTurn(8);
        check.due(PROMISE + ": one round above", desk.vote(5, 4), 1);
        check.illegalArgument(PROMISE + ": of the same round", () -> desk.vote(4, 3));
        check.illegalArgument(PROMISE + ": of the same round, the older one", () -> desk.vote(3, 4));
        check.illegalArgument(PROMISE + ": on itself", () -> desk.vote(4, 4));
        check.illegalArgument(PROMISE + ": one round below", () -> desk.vote(4, 5));
        check.illegalArgument(PROMISE + ": two rounds below", () -> desk.vote(3, 7));
    }

    private static void firstAndLastEvent() {
        Desk desk = Runs.inTurn(240);
        check.due(PROMISE + ": the last on the first, 119 rounds before", desk.vote(239, 0), 3);
        check.due(PROMISE + ": a coin, 116 rounds after", desk.vote(233, 1), 1);
        check.outOfBounds(PROMISE + ": y 240", () -> desk.vote(240, 0));
        check.outOfBounds(PROMISE + ": x 240", () -> desk.vote(239, 240));
    }

    private static void refusedNumbers() {
        Refusals refused = new Refusals(check, PROMISE, desk -> {
            desk.begin(2);
            Runs.goOnInTurn(desk, 12);
        });
        refused.outOfBounds("y -1", desk -> desk.vote(-1, 0));
        refused.outOfBounds("y 12", desk -> desk.vote(12, 0));
        refused.outOfBounds("x -1", desk -> desk.vote(11, -1));
        refused.outOfBounds("x 12", desk -> desk.vote(11, 12));
        for (int x : Edges.outside(0, 11)) {
            refused.outOfBounds("y " + x, desk -> desk.vote(x, 0));
            refused.outOfBounds("x " + x, desk -> desk.vote(11, x));
            refused.outOfBounds("both " + x, desk -> desk.vote(x, x));
        }
        refused.changedNothing();
    }

    /** Event 2 is no witness. */
    private static void refusedEvents() {
        Refusals refused = new Refusals(check, PROMISE, desk -> {
            desk.begin(2);
            Runs.goOnInTurn(desk, 12);
        });
        refused.illegalArgument("on no witness", desk -> desk.vote(11, 2));
        refused.illegalArgument("by no witness", desk -> desk.vote(2, 0));
        refused.illegalArgument("neither is one", desk -> desk.vote(2, 2));
        refused.illegalArgument("of one round", desk -> desk.vote(1, 0));
        refused.illegalArgument("of a lesser round", desk -> desk.vote(0, 11));
        refused.changedNothing();
    }

    /** Of several things that are wrong the numbers stand first. */
    private static void numbersBeforeWitnesses() {
        Desk desk = Runs.inTurn(12);
        check.outOfBounds(PROMISE + ": no x, y no witness", () -> desk.vote(2, 12));
        check.outOfBounds(PROMISE + ": no x, y no witness", () -> desk.vote(2, -1));
        check.outOfBounds(PROMISE + ": no y, x no witness", () -> desk.vote(12, 2));
        check.outOfBounds(PROMISE + ": no y, x no witness", () -> desk.vote(-1, 2));
    }
}
