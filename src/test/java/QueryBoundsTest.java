import java.util.Arrays;

/**
 * covering, multi and listing count from 0: "-1 when there is none. When k is -1: how many there
 * are." Each k from below -1 to beyond the last, for every number of them that there can be.
 */
public final class QueryBoundsTest {
    private static final int[] FAR = {Integer.MIN_VALUE, Integer.MIN_VALUE + 1, -4096, 24, 4095, 65536,
        Integer.MAX_VALUE - 1, Integer.MAX_VALUE};

    public static void main(String[] args) {
        for (int count = 0; count <= 12; count++) {
            listing(count);
        }
        for (int count = 0; count <= 6; count++) {
            covering(count);
        }
        for (int count = 0; count <= 11; count++) {
            multi(count);
        }
        tokens();
        Script.end();
    }

    private static void each(LockedTree tree, String query, int[] due) {
        for (int k = -3; k <= 16; k++) {
            one(tree, query, k, due);
        }
        for (int k : FAR) {
            one(tree, query, k, due);
        }
    }

    private static void one(LockedTree tree, String query, int k, int[] due) {
        long answer = query.equals("covering") ? tree.covering(1, k) : Calls.make(tree, query, k);
        int want = k == -1 ? due.length : k >= 0 && k < due.length ? due[k] : -1;
        Script.due(query + " " + k + " of " + due.length, answer, want);
    }

    /** Made from the greatest path down, so that the order is not that in which they came. */
    private static void listing(int count) {
        LockedTree tree = new LockedTree();
        int[] due = new int[count];
        for (int i = 0; i < count; i++) {
            int path = i == 0 ? 7 : i <= 7 ? 64 - i : 14 - i;
            Script.due("a resource at " + path, i == 0 ? tree.mkcol(path) : tree.put(path, 1), 201);
            due[i] = path;
        }
        Arrays.sort(due);
        each(tree, "listing", due);
    }

    /** Every second lock is gone again, so that tokens are missing between. */
    private static void covering(int count) {
        LockedTree tree = Script.after("a document", "put 1 1 -> 201");
        int[] due = new int[count];
        for (int i = 0; i < count; i++) {
            Script.due("a lock", tree.lock(i % 2 == 0 ? 1 : 0, false, true, 9), 200);
            due[i] = 2 * i + 1;
            if (i < 5) {
                Script.due("another", tree.lock(1, false, true, 9), 200);
                Script.due("is gone", tree.unlock(1, 2 * i + 2), 204);
            } else {
                due[i] = 11;
            }
        }
        each(tree, "covering", due);
    }

    /** 9 and all below it stay by a deep lock, 10, 11 and 12 by locks of their own. */
    private static void multi(int count) {
        LockedTree tree = Script.after("a collection", "mkcol 1 -> 201; mkcol 9 -> 201");
        int[] due = new int[count];
        for (int i = 0; i < count; i++) {
            due[i] = i == 0 ? 9 : i <= 7 ? 72 + i : 2 + i;
            if (i > 0) {
                Script.due("a document at " + due[i], tree.put(due[i], 1), 201);
            }
        }
        for (int path : due) {
            if (path <= 12) {
                Script.due("a lock on " + path, tree.lock(path, false, true, 9), 200);
            }
        }
        Arrays.sort(due);
        Script.due("delete(1)", tree.delete(1), count == 0 ? 204 : 207);
        each(tree, "multi", due);
    }

    /** "lockOf: -1 when there is none": tokens that were given, are given, and were never given. */
    private static void tokens() {
        LockedTree tree = Script.after("three locks", "lock 0 false false 1 -> 200; lock 0 false true 2 -> 200;"
            + "lock 0 false false 3 -> 200; unlock 0 1 -> 204");
        for (int token = -3; token <= 20; token++) {
            long due = token == 2 ? 2 * 16384 + 2 : token == 3 ? 3 * 16384 : -1;
            Script.due("lockOf(" + token + ")", tree.lockOf(token), due);
        }
        for (int token : FAR) {
            Script.due("lockOf(" + token + ")", tree.lockOf(token), -1);
        }
    }
}
