/** Promise 7: hash() tells 32 bits of the hash of an event. */
public final class Promise07Test {
    private static final String PROMISE = "promise 7";

    private static final Check check = new Check();

    public static void main(String[] args) {
        wordsOfKnownHashes();
        wordsOfTheGreatestTime();
        firstAndLastWord();
        firstAndLastEvent();
        refused();
        check.finish();
    }

    private static void dueHash(Desk desk, int x, int... words) {
        for (int word = 0; word < 8; word++) {
            check.due(PROMISE + ": hash(" + x + ", " + word + ")", desk.hash(x, word), words[word]);
        }
    }

    /** The words are those that another program's SHA-256 gives for the octets. */
    private static void wordsOfKnownHashes() {
        Desk desk = new Desk();
        desk.sync(0, 1, -2);
        desk.submit(3, 2, 1000000);
        desk.submit(3, 3, 0);
        desk.submit(3, 0, 70000);
        desk.sync(1, 3, 0x0102030405060708L);
        dueHash(desk, 0, 0xd0800cd1, 0x5f8b8498, 0x23220f7a, 0x12fbaa66, 0x5fe426ed, 0x1ddb13b6, 0x0ecb89a5,
                0xd412c1de);
        dueHash(desk, 3, 0x5dfbad8a, 0xcd88ec01, 0x5549dfaf, 0x0af931ff, 0x2237b03a, 0x6bc89be5, 0xb8ad6227,
                0xee38a0df);
        dueHash(desk, 4, 0xbebb1034, 0xa8c01f20, 0x7a8e39bb, 0xd90fe10a, 0x10124add, 0xba436986, 0x1139e4c9,
                0x323f1d9b);
        dueHash(desk, 5, 0xe5fc619a, 0x91b14278, 0x02613be7, 0xd81fba4d, 0xf9c72a8f, 0x48aff60b, 0x22cde10f,
                0xe9c86929);
    }

    private static void wordsOfTheGreatestTime() {
        Desk desk = new Desk();
        desk.sync(2, 0, 0);
        desk.inject(0, 2, 2, -1, Long.MAX_VALUE);
        dueHash(desk, 5, 0x741a6048, 0xc6eb42af, 0x4a507848, 0x0ef65950, 0x9e252c78, 0xe5a614a1, 0xf5feb34c,
                0xf22eaa7d);
    }

    private static void firstAndLastWord() {
        Desk desk = new Desk();
        check.due(PROMISE + ": the first word", desk.hash(1, 0), new Model(4).hashWord(1, 0));
        check.due(PROMISE + ": the last word", desk.hash(1, 7), new Model(4).hashWord(1, 7));
        check.outOfBounds(PROMISE + ": word -1 is not the last of the event before", () -> desk.hash(1, -1));
        check.outOfBounds(PROMISE + ": word 8 is not the first of the next event", () -> desk.hash(1, 8));
    }

    private static void firstAndLastEvent() {
        Both both = new Both(check, PROMISE, 8);
        for (int k = 8; k < 240; k++) {
            both.sync(k % 8, (k + 1) % 8, k);
        }
        both.compareHash(0);
        both.compareHash(239);
        check.outOfBounds(PROMISE + ": event 240", () -> both.desk.hash(240, 0));
    }

    private static void refused() {
        Refusals refused = new Refusals(check, PROMISE, Runs::makeBusy);
        int events = 45;
        for (int word = 0; word < 8; word++) {
            int asked = word;
            refused.outOfBounds("event -1, word " + word, desk -> desk.hash(-1, asked));
            refused.outOfBounds("event 45, word " + word, desk -> desk.hash(events, asked));
            for (int x : Edges.outside(0, events - 1)) {
                refused.outOfBounds("event " + x + ", word " + word, desk -> desk.hash(x, asked));
            }
        }
        for (int word : Edges.outside(0, 7)) {
            refused.outOfBounds("event 0, word " + word, desk -> desk.hash(0, word));
            refused.outOfBounds("event 44, word " + word, desk -> desk.hash(events - 1, word));
            refused.outOfBounds("event 45, word " + word, desk -> desk.hash(events, word));
        }
        refused.changedNothing();
    }
}
