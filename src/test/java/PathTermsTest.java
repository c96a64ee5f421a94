/**
 * "PATHS .. is 0, or 1 .. 4095 with no digit 0 in base 8": each number around and between these
 * bounds, in every place of the face where a path stands. And what is BELOW what, for all paths.
 */
public final class PathTermsTest {
    private static final int[] FAR = {Integer.MIN_VALUE, Integer.MIN_VALUE + 1, -4095, -585, -9, -8, -2,
        65536 + 9, (1 << 24) + 1, Integer.MAX_VALUE - 1, Integer.MAX_VALUE};
    private static final int LAST = 4700;

    public static void main(String[] args) {
        for (int p = -1; p <= LAST; p++) {
            everywhere(p);
        }
        for (int p : FAR) {
            everywhere(p);
        }
        for (int p = 0; p <= 9999; p++) {
            inTheHeader(p);
        }
        for (int root : new int[] {0, 1, 7, 9, 15, 57, 63, 73, 511, 585, 4095}) {
            covered(root);
        }
        oneBelowTheOther();
        Script.end();
    }

    /** The names of a path as digits, null when the number is no path. */
    private static String names(int p) {
        if (p == 0) {
            return "";
        }
        String octal = p < 0 ? "0" : Integer.toOctalString(p);
        return octal.length() > 4 || octal.contains("0") ? null : octal;
    }

    private static void everywhere(int p) {
        boolean path = names(p) != null;
        wrong("put(" + p + ", 0)", new LockedTree().put(p, 0), path);
        wrong("mkcol(" + p + ")", new LockedTree().mkcol(p), path);
        wrong("delete(" + p + ")", new LockedTree().delete(p), path);
        wrong("copy(" + p + ", 1, ..)", new LockedTree().copy(p, 1, true, true), path);
        wrong("copy(1, " + p + ", ..)", new LockedTree().copy(1, p, true, true), path);
        wrong("move(" + p + ", 1, ..)", new LockedTree().move(p, 1, true), path);
        wrong("move(1, " + p + ", ..)", new LockedTree().move(1, p, true), path);
        wrong("patch(" + p + ", 0, 0)", new LockedTree().patch(p, 0, 0), path);
        wrong("lock(" + p + ", ..)", new LockedTree().lock(p, true, true, 1), path);
        wrong("refresh(" + p + ", 1)", new LockedTree().refresh(p, 1), path);
        wrong("unlock(" + p + ", 1)", new LockedTree().unlock(p, 1), path);
        LockedTree tree = new LockedTree();
        Script.due("covering(" + p + ", -1)", tree.covering(p, -1), path ? 0 : -1);
        Script.due("covering(" + p + ", 0)", tree.covering(p, 0), -1);
        Script.due("kind(" + p + ")", tree.kind(p), p == 0 ? 2 : 0);
        Script.due("body(" + p + ")", tree.body(p), p == 0 ? 0 : -1);
        Script.due("stamp(" + p + ")", tree.stamp(p), p == 0 ? 0 : -1);
        Script.due("property(" + p + ", 0)", tree.property(p, 0), p == 0 ? 0 : -1);
    }

    private static void wrong(String call, int answer, boolean path) {
        Script.due(call + " is 400", answer == 400 ? 1 : 0, path ? 0 : 1);
    }

    private static void inTheHeader(int p) {
        LockedTree tree = new LockedTree();
        for (char c : ("/" + p + "(!t1)").toCharArray()) {
            tree.head(c);
        }
        Script.due("tick(0) with /" + p + "(!t1)", tree.tick(0), names(p) == null ? 400 : 200);
    }

    /** "It COVERS its root and, if it is deep, all paths below its root." */
    private static void covered(int root) {
        for (int deep = 0; deep <= 1; deep++) {
            LockedTree tree = new LockedTree();
            int calls = lockOnly(tree, root, deep == 1);
            for (int p = 0; p <= LAST; p++) {
                if (calls >= 512) {
                    tree = new LockedTree();
                    calls = lockOnly(tree, root, deep == 1);
                }
                calls++;
                boolean below = names(p) != null && names(p).startsWith(names(root));
                int due = names(p) == null ? -1 : p == root || deep == 1 && below ? 1 : 0;
                Script.due("covering(" + p + ", -1) of a lock on " + root, tree.covering(p, -1), due);
            }
        }
    }

    private static int lockOnly(LockedTree tree, int root, boolean deep) {
        tree.mkcol(root / 512);
        tree.mkcol(root / 64);
        tree.mkcol(root / 8);
        Script.due("lock(" + root + ")", tree.lock(root, true, deep, 9), root == 0 ? 200 : 201);
        return 4;
    }

    /** "403: q is 0, q = p, or one is below the other", for all paths of up to three names. */
    private static void oneBelowTheOther() {
        for (int p = 0; p <= 511; p++) {
            LockedTree tree = new LockedTree();
            for (int q = 0; q <= 511; q++) {
                String from = names(p);
                String to = names(q);
                if (q == 256) {
                    tree = new LockedTree();
                }
                if (from != null && to != null) {
                    int due = from.startsWith(to) || to.startsWith(from) ? 403 : 404;
                    Script.due("copy(" + p + ", " + q + ")", tree.copy(p, q, true, true), due);
                    Script.due("move(" + p + ", " + q + ")", tree.move(p, q, true), due);
                }
            }
        }
        Script.run("four names", "copy 585 73 true true -> 403; copy 585 9 true true -> 403;"
            + "copy 585 1 true true -> 403; copy 585 0 true true -> 403; copy 585 585 true true -> 403;"
            + "copy 585 586 true true -> 404; copy 585 74 true true -> 404; copy 73 585 true true -> 403;"
            + "copy 1 585 true true -> 403; copy 0 585 true true -> 403; copy 2 585 true true -> 404;"
            + "move 585 73 true -> 403; move 73 585 true -> 403; move 585 586 true -> 404;"
            + "move 0 585 true -> 403; move 585 0 true -> 403");
    }
}
