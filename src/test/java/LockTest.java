/** Promise 10, and the terms of locks. */
public final class LockTest {
    public static void main(String[] args) {
        locks();
        barredPaths();
        refusals();
        conflicts();
        everyPairOfLocks();
        limits();
        Script.end();
    }

    private static void locks() {
        Script.run("a lock on a resource", """
            put 1 5 -> 201
            tick 3 -> 200
            lock 1 true false 100 -> 200
            lockOf 1 -> 1687557
            stamp 1 -> 1
            body 1 -> 5
            writes -> 9
            """);
        Script.run("a lock makes a document", """
            lock 7 false true 1 -> 201
            kind 7 -> 1
            body 7 -> 0
            stamp 7 -> 1
            lockOf 1 -> 16414
            writes -> 5
            lock 6 true false 1 -> 201
            stamp 6 -> 2
            lockOf 2 -> 16409
            listing -1 -> 2
            """);
        Script.run("the root can be locked", """
            lock 0 true false 2 -> 200
            lockOf 1 -> 32769
            covering 0 0 -> 1
            covering 1 0 -> -1
            """);
        Script.run("tokens go on, whether locks go or not", """
            lock 0 true false 2 -> 200
            unlock 0 1 -> 204
            lock 0 true false 2 -> 200
            lockOf 1 -> -1
            lockOf 2 -> 32769
            lock 8 true false 2 -> 400
            lock 9 true false 2 -> 409
            tick 2 -> 200
            lock 0 false true 2 -> 200
            lockOf 3 -> 65538
            """);
    }

    private static void barredPaths() {
        Script.run("a barred path without a resource may be shared, if its parent is opened", """
            mkcol 1 -> 201
            lock 0 false true 9 -> 200
            lock 1 false false 9 -> 200
            lock 9 false false 9 -> 423
            head /1(t2)
            lock 9 true false 9 -> 423
            head /1(t2)
            lock 9 false false 9 -> 201
            covering 9 -1 -> 2
            """);
        Script.run("nothing of what stood there before comes back", """
            put 1 5 -> 201
            patch 1 0 7 -> 200
            patch 1 2 9 -> 200
            delete 1 -> 204
            lock 1 true true 9 -> 201
            body 1 -> 0
            property 1 0 -> 0
            property 1 2 -> 0
            stamp 1 -> 2
            """);
    }

    private static void refusals() {
        Script.run("400", """
            lock 8 true true 1 -> 400
            lock -1 true true 1 -> 400
            lock 4096 true true 1 -> 400
            lock 0 true true 0 -> 400
            lock 0 true true -1 -> 400
            lock 0 true true 101 -> 400
            lock 0 true true MIN -> 400
            lock 0 true true MAX -> 400
            covering 0 -1 -> 0
            """);
        Script.run("409 before 423", """
            lock 9 true true 1 -> 409
            put 1 1 -> 201
            lock 9 true true 1 -> 409
            lock 0 true true 9 -> 200
            lock 9 true true 1 -> 409
            lock 73 true true 1 -> 409
            """);
        Script.run("423 at the parent, for what is new", """
            mkcol 1 -> 201
            put 9 1 -> 201
            lock 1 true false 9 -> 200
            lock 9 true false 9 -> 200
            lock 10 true false 9 -> 423
            lock 10 false false 9 -> 423
            head /1(t1)
            lock 10 true false 9 -> 201
            lockOf 3 -> 147497
            """);
    }

    private static void conflicts() {
        String shared = "mkcol 1 -> 201\nput 9 1 -> 201\nlock 1 false %s 9 -> 200\n";
        String exclusive = "mkcol 1 -> 201\nput 9 1 -> 201\nlock 1 true %s 9 -> 200\n";
        Script.run("shared and shared", String.format(shared, "true") + """
            lock 1 false false 9 -> 200
            lock 1 false true 9 -> 200
            lock 9 false true 9 -> 200
            lock 0 false true 9 -> 200
            covering 9 -1 -> 4
            """);
        Script.run("shared and exclusive", String.format(shared, "true") + """
            lock 1 true false 9 -> 423
            lock 9 true false 9 -> 423
            lock 0 true true 9 -> 423
            lock 0 true false 9 -> 200
            """);
        Script.run("exclusive and shared", String.format(exclusive, "true") + """
            lock 1 false false 9 -> 423
            lock 9 false false 9 -> 423
            lock 0 false true 9 -> 423
            lock 0 false false 9 -> 200
            lock 2 true true 9 -> 423
            """);
        Script.run("a lock that is not deep covers its root alone", String.format(exclusive, "false") + """
            lock 9 true true 9 -> 200
            lock 1 false false 9 -> 423
            lock 0 false true 9 -> 423
            lock 0 true false 9 -> 200
            """);
        Script.run("a lock two levels below is met too", """
            mkcol 1 -> 201
            mkcol 9 -> 201
            put 73 1 -> 201
            lock 73 true false 9 -> 200
            lock 1 false true 9 -> 423
            lock 0 false true 9 -> 423
            lock 1 true false 9 -> 200
            lock 9 true true 9 -> 423
            """);
        Script.run("a submitted token does not help", String.format(exclusive, "true") + """
            head (t1)
            lock 1 true false 9 -> 423
            head (t1)
            lock 9 false false 9 -> 423
            head (t1)
            lock 10 false false 9 -> 423
            kind 10 -> 0
            """);
        Script.run("a shared one on what is new below a shared deep one", String.format(shared, "true") + """
            lock 10 false false 9 -> 423
            head (t1)
            lock 10 false false 9 -> 201
            head (t1)
            lock 11 true false 9 -> 423
            """);
    }

    /** An old lock above, at, below or beside the path 1, and a new one there, of every kind. */
    private static void everyPairOfLocks() {
        for (int kinds = 0; kinds < 16; kinds++) {
            boolean oldDeep = (kinds & 1) != 0;
            boolean oldExclusive = (kinds & 2) != 0;
            boolean newDeep = (kinds & 4) != 0;
            boolean newExclusive = (kinds & 8) != 0;
            for (int root : new int[] {0, 1, 9, 73, 585, 2, 17}) {
                LockedTree tree = Script.after("a branch", Texts.BRANCH.replace("put 2 7", "mkcol 2") + "put 17 1 -> 201");
                boolean below = root == 9 || root == 73 || root == 585;
                boolean meets = root == 1 || root == 0 && oldDeep || below && newDeep;
                int due = meets && (oldExclusive || newExclusive) ? 423 : 200;
                String title = "kinds " + kinds + ", an old lock on " + root;
                Script.due(title, tree.lock(root, oldExclusive, oldDeep, 9), 200);
                Script.due(title + ", a new one", tree.lock(1, newExclusive, newDeep, 8), due);
                Script.due(title + ", its end", tree.lockOf(2), due == 423 ? -1
                    : 8 * 16384 + 4 + (newDeep ? 2 : 0) + (newExclusive ? 1 : 0));
            }
        }
    }

    private static void limits() {
        String six = """
            lock 0 false false 9 -> 200
            lock 0 false false 9 -> 200
            lock 0 false false 9 -> 200
            lock 0 false false 9 -> 200
            lock 0 false false 9 -> 200
            lock 0 false false 8 -> 200
            """;
        Script.run("507 for the 7th lock, after 423", six + """
            lock 0 false false 9 -> 507
            lock 0 true false 9 -> 423
            lock 1 false false 9 -> 423
            head /0(t3)
            lock 1 false false 9 -> 507
            lockOf 7 -> -1
            kind 1 -> 0
            tick 8 -> 200
            lock 0 false false 9 -> 200
            lockOf 7 -> 278528
            lock 0 false false 9 -> 507
            """);
        Script.run("507 for the 13th resource, after 423", Texts.TWELVE + """
            lock 14 true false 9 -> 507
            lock 13 true false 9 -> 200
            lock 1 true false 9 -> 200
            lock 14 true false 9 -> 423
            lock 17 true false 9 -> 409
            lockOf 3 -> -1
            """);
    }
}
