import java.util.ArrayList;
import java.util.List;

/** One vote of a witness y on a witness x, with the votes of the witnesses that y strongly sees a round below. */
final class Ballot {
    final int n;
    final int y;
    final int x;
    final int distance;
    final int yes;
    final int no;
    final int vote;
    final boolean isSeen;
    final boolean isHighBitSet;

    private Ballot(Desk desk, int n, int y, int x, int distance, List<Integer> electors) {
        this.n = n;
        this.y = y;
        this.x = x;
        this.distance = distance;
        int some = 0;
        if (distance > 1) {
            for (int z : electors) {
                some += desk.vote(z, x) & 1;
            }
        }
        yes = some;
        no = electors.size() - some;
        vote = desk.vote(y, x);
        isSeen = desk.sees(y, x, false);
        isHighBitSet = (desk.hash(y, 16 / 4) >>> 24 & 0x80) != 0;
    }

    boolean isYes() {
        return (vote & 1) == 1;
    }

    boolean decides() {
        return vote >= 2;
    }

    boolean isCoin() {
        return distance % 4 == 0;
    }

    /** The greatest number that is not "more than 2n / 3". */
    static int tooFew(int n) {
        return 2 * n / 3;
    }

    @Override
    public String toString() {
        return n + " nodes: vote(" + y + ", " + x + "), " + distance + " rounds, " + yes + " yes, " + no + " no";
    }

    static List<Ballot> allOf(Desk desk) {
        int n = desk.count(0);
        int events = desk.count(1);
        int[] round = new int[events];
        List<Integer> witnesses = new ArrayList<>();
        for (int x = 0; x < events; x++) {
            round[x] = desk.event(x, 3);
            if (desk.event(x, 4) == 1) {
                witnesses.add(x);
            }
        }
        List<Ballot> ballots = new ArrayList<>();
        for (int y : witnesses) {
            List<Integer> electors = new ArrayList<>();
            for (int z : witnesses) {
                if (round[z] == round[y] - 1 && desk.sees(y, z, true)) {
                    electors.add(z);
                }
            }
            for (int x : witnesses) {
                if (round[x] < round[y]) {
                    ballots.add(new Ballot(desk, n, y, x, round[y] - round[x], electors));
                }
            }
        }
        return ballots;
    }
}
