/** Any arguments in any state: nothing but what the document names is thrown, and what throws changes nothing. */
public final class WildTest {
    private static final int RUNS = 100;
    private static final int CALLS = 400;
    private static final int KINDS = 14;
    private static final int[] WILD = {Integer.MIN_VALUE, -2, -1, 0, 1, 2, 3, 7, 8, 9, 239, 240, 999999, 1000000,
        1000001, Integer.MAX_VALUE};

    private static final Class<?> ARGUMENT = IllegalArgumentException.class;
    private static final Class<?> STATE = IllegalStateException.class;
    private static final Class<?> BOUNDS = IndexOutOfBoundsException.class;
    private static final Class<?> UNSUPPORTED = UnsupportedOperationException.class;
    private static final Class<?>[][] THROWN = {{ARGUMENT}, {ARGUMENT, BOUNDS}, {ARGUMENT, BOUNDS},
        {ARGUMENT, STATE, BOUNDS}, {ARGUMENT, BOUNDS}, {BOUNDS}, {BOUNDS}, {BOUNDS, ARGUMENT}, {ARGUMENT, BOUNDS},
        {ARGUMENT, BOUNDS, UNSUPPORTED}, {ARGUMENT}, {ARGUMENT, BOUNDS}, {ARGUMENT}, {ARGUMENT}};

    private static final Check check = new Check();
    private static long seed = 7;

    public static void main(String[] args) {
        for (int run = 0; run < RUNS; run++) {
            Desk desk = new Desk();
            for (int call = 0; call < CALLS; call++) {
                // Most of the calls of most runs are syncs, so that the runs come to rounds, orders and 240 events.
                int kind = random(run % 4 + 2) == 0 ? random(KINDS) : 2;
                if (kind != 0 || random(20) == 0) {
                    callOnce(desk, kind, "run " + run + ", call " + call + ": kind " + kind, random(200) == 0);
                }
            }
        }
        check.finish();
    }

    private static int random(int bound) {
        seed = seed * 6364136223846793005L + 1442695040888963407L;
        return (int) ((seed >>> 33) % bound);
    }

    private static int wild(int usual) {
        return random(12) == 0 ? WILD[random(WILD.length)] : random(usual);
    }

    private static void callOnce(Desk desk, int kind, String call, boolean compares) {
        int node = wild(desk.count(0));
        int another = wild(desk.count(0));
        int x = wild(desk.count(1));
        int y = wild(desk.count(1));
        int small = wild(9);
        String before = compares ? State.of(desk) : "";
        try {
            make(desk, kind, new int[] {node, another, x, y, small});
            check.isTrue(call, true);
        } catch (RuntimeException thrown) {
            boolean isNamed = false;
            for (Class<?> named : THROWN[kind]) {
                isNamed |= thrown.getClass() == named;
            }
            check.isTrue(call + " threw " + thrown, isNamed);
            check.isTrue(call + " threw and changed something", !compares || State.of(desk).equals(before));
        }
    }

    private static long make(Desk desk, int kind, int[] a) {
        switch (kind) {
            case 0:
                desk.begin(a[4]);
                return 0;
            case 1: return desk.submit(a[0], a[1], a[4]);
            case 2: return desk.sync(a[0], a[1], a[4]);
            case 3: return desk.inject(a[0], a[1], a[2], a[3], a[4]);
            case 4: return desk.event(a[2], a[4]);
            case 5: return desk.hash(a[2], a[4]);
            case 6: return desk.sees(a[2], a[3], a[4] % 2 == 0) ? 1 : 0;
            case 7: return desk.vote(a[2], a[3]);
            case 8: return desk.found(a[0], a[2], a[4]);
            case 9: return desk.stamp(a[0], a[2]);
            case 10: return desk.order(a[0]);
            case 11: return desk.at(a[0], a[4]);
            case 12: return desk.balance(a[0], a[1]);
            default: return desk.count(a[4]);
        }
    }
}
