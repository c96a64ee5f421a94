/** What an object tells of itself, as a text, so that two objects can be compared. */
final class Snapshot {
    private static final int TOKENS = 12;

    private Snapshot() {
    }

    /** The resources and the locks, without a change to the object. */
    static String visible(LockedTree tree) {
        StringBuilder text = new StringBuilder();
        describe(tree, 0, text);
        int count = tree.listing(-1);
        for (int k = 0; k < count; k++) {
            describe(tree, tree.listing(k), text);
        }
        for (int token = 0; token <= TOKENS; token++) {
            if (tree.lockOf(token) != -1) {
                text.append(" lock ").append(token).append('=').append(tree.lockOf(token));
            }
        }
        return text.toString();
    }

    private static void describe(LockedTree tree, int p, StringBuilder text) {
        text.append(p).append(':').append(tree.kind(p)).append(',').append(tree.body(p))
            .append(',').append(tree.stamp(p));
        for (int key = 0; key < 3; key++) {
            text.append(',').append(tree.property(p, key));
        }
        int covering = tree.covering(p, -1);
        for (int k = 0; k < covering; k++) {
            text.append(",t").append(tree.covering(p, k));
        }
        text.append(' ');
    }

    /**
     * What comes next, at the price of changing the object: the clock, the next token and the next
     * stamp show, and a header that is not empty or a failure that is still set spoils the tick.
     */
    static String future(LockedTree tree) {
        int before = tree.writes();
        StringBuilder text = new StringBuilder("tick ").append(tree.tick(1000));
        text.append(" lock ").append(tree.lock(0, false, false, 1));
        int token = tree.covering(0, 0);
        text.append(" token ").append(token).append('=').append(tree.lockOf(token));
        text.append(" unlock ").append(tree.unlock(0, token));
        int first = Math.max(1, tree.listing(0));
        text.append(" delete ").append(tree.delete(first)).append(" put ").append(tree.put(first, 1));
        text.append(" stamp ").append(tree.stamp(first)).append(" writes ").append(tree.writes() - before);
        return text.toString();
    }
}
