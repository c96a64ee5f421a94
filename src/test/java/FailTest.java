/** Promise 3, and the terms of the disk. */
public final class FailTest {
    public static void main(String[] args) {
        Script.run("the numbers that fail takes", """
            fail -1 -> 1
            fail 0 -> 1
            fail 1 -> 1
            fail 100 -> 1
            fail -1 -> 1
            fail 101 -> 0
            fail -2 -> 0
            fail MAX -> 0
            fail MIN -> 0
            put 1 1 -> 201
            """);
        Script.run("a refused failure changes nothing", """
            fail 1 -> 1
            fail 101 -> 0
            fail -2 -> 0
            put 1 1 -> 0
            kind 1 -> 0
            writes -> 1
            """);
        Script.run("the latest failure counts", """
            fail 0 -> 1
            fail 2 -> 1
            put 1 1 -> 0
            kind 1 -> 1
            writes -> 2
            """);
        Script.run("none is set any more", """
            fail 0 -> 1
            fail -1 -> 1
            put 1 1 -> 201
            """);
        everyFailureOfOneChange();
        everyFailureOfManyChanges();
        nextRequestAlone();
        Script.end();
    }

    private static void everyFailureOfOneChange() {
        Script.run("one change makes three writes", """
            fail 0 -> 1
            put 1 1 -> 0
            writes -> 0
            fail 1 -> 1
            put 1 2 -> 0
            kind 1 -> 0
            writes -> 1
            fail 2 -> 1
            put 1 3 -> 0
            body 1 -> 3
            stamp 1 -> 1       # the interrupted ones took no stamp
            writes -> 3
            fail 3 -> 1
            put 1 4 -> 204
            stamp 1 -> 2
            writes -> 6
            fail 100 -> 1
            put 1 5 -> 204
            writes -> 9
            """);
        Script.run("tokens and the clock are as before, too", """
            fail 1 -> 1
            lock 0 true false 5 -> 0
            lockOf 1 -> -1
            fail 1 -> 1
            tick 4 -> 0
            lock 0 true false 5 -> 200
            lockOf 1 -> 81921
            fail 1 -> 1
            refresh 0 9 -> 412
            head (t1)
            fail 1 -> 1
            refresh 0 9 -> 0
            lockOf 1 -> 81921
            head (t1)
            fail 2 -> 1
            refresh 0 9 -> 0
            lockOf 1 -> 147457
            fail 1 -> 1
            unlock 0 1 -> 0
            lockOf 1 -> 147457
            fail 2 -> 1
            unlock 0 1 -> 0
            lockOf 1 -> -1
            """);
    }

    private static void everyFailureOfManyChanges() {
        for (int n = 0; n <= 14; n++) {
            LockedTree tree = new LockedTree();
            tree.mkcol(1);
            tree.put(9, 1);
            tree.put(10, 1);
            tree.fail(n);
            int before = tree.writes();
            // Six paths change: K is 6 and there are 13 writes.
            Script.due("move with failure " + n, tree.move(1, 2, false), n < 13 ? 0 : 201);
            Script.due("kind(1) with failure " + n, tree.kind(1), n <= 6 ? 2 : 0);
            Script.due("kind(18) with failure " + n, tree.kind(18), n <= 6 ? 0 : 1);
            Script.due("writes with failure " + n, tree.writes() - before, Math.min(n, 13));
            tree.put(3, 1);
            Script.due("the next stamp", tree.stamp(3), 4);
        }
    }

    private static void nextRequestAlone() {
        Script.run("a refused request uses the failure up", """
            fail 0 -> 1
            put 8 1 -> 400
            put 1 1 -> 201
            fail 0 -> 1
            head (t1)
            put 1 2 -> 412
            put 1 2 -> 204
            fail 0 -> 1
            delete 7 -> 404
            delete 1 -> 204
            """);
        Script.run("so does a request without writes", """
            put 1 1 -> 201
            fail 0 -> 1
            patch 1 0 0 -> 200
            patch 1 0 7 -> 200
            fail 0 -> 1
            tick 0 -> 200
            tick 1 -> 200
            """);
        Script.run("so does one that is done, and one that is interrupted", """
            fail 3 -> 1
            put 1 1 -> 201
            copy 1 2 false false -> 201
            fail 0 -> 1
            put 1 2 -> 0
            put 1 2 -> 204
            """);
        Script.run("what is no request leaves it", """
            fail 0 -> 1
            kind 1 -> 0
            head (e0)
            writes -> 0
            listing -1 -> 0
            tick 1 -> 0
            """);
    }
}
