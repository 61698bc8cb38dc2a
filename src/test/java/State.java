/** All that can be asked of a desk, as one text: two desks that answer alike have the same one. */
final class State {
    private State() {
    }

    static String of(HashgraphDesk desk) {
        StringBuilder text = new StringBuilder();
        for (int what = 0; what <= 5; what++) {
            text.append(desk.count(what)).append(' ');
        }
        for (int x = 0; x < desk.count(1); x++) {
            addEvent(text, desk, x);
        }
        for (int node = 0; node < desk.count(0); node++) {
            addNode(text, desk, node);
        }
        return text.toString();
    }

    private static void addEvent(StringBuilder text, HashgraphDesk desk, int x) {
        text.append('\n');
        for (int what = 0; what <= 7; what++) {
            text.append(desk.event(x, what)).append(' ');
        }
        for (int word = 0; word < 8; word++) {
            text.append(desk.hash(x, word)).append(' ');
        }
        for (int y = 0; y < desk.count(1); y++) {
            text.append(desk.sees(x, y, false) ? 1 : 0).append(desk.sees(x, y, true) ? 1 : 0);
        }
    }

    private static void addNode(StringBuilder text, HashgraphDesk desk, int node) {
        text.append('\n').append(desk.order(node));
        for (int x = 0; x < desk.count(1); x++) {
            for (int what = 0; what <= 3; what++) {
                text.append(' ').append(desk.found(node, x, what));
            }
        }
        for (int account = 0; account < desk.count(0); account++) {
            text.append(' ').append(desk.balance(node, account));
        }
    }
}
