/** Promises 18 covering and 19 lockOf. */
public final class LockQueriesTest {
    private static final String SOME = """
        mkcol 1 -> 201
        put 9 1 -> 201
        lock 9 false false 7 -> 200
        lock 1 false true 8 -> 200
        lock 1 false false 9 -> 200
        lock 0 false true 10 -> 200
        """;

    public static void main(String[] args) {
        Script.run("covering", SOME + """
            covering 9 -1 -> 3
            covering 9 0 -> 1
            covering 9 1 -> 2
            covering 9 2 -> 4
            covering 9 3 -> -1
            covering 1 -1 -> 3
            covering 1 0 -> 2
            covering 1 1 -> 3
            covering 1 2 -> 4
            covering 0 -1 -> 1
            covering 0 0 -> 4
            covering 73 -1 -> 2
            covering 585 0 -> 2
            covering 2 -1 -> 1
            covering 2 0 -> 4
            """);
        Script.run("covering, wrong numbers", SOME + """
            covering 8 -1 -> -1
            covering 8 0 -> -1
            covering -1 -1 -> -1
            covering 4096 -1 -> -1
            covering 4096 0 -> -1
            covering MIN -1 -> -1
            covering MAX -1 -> -1
            covering 9 -2 -> -1
            covering 9 MAX -> -1
            covering 9 MIN -> -1
            """);
        Script.run("covering when a lock between is gone", SOME + """
            unlock 1 2 -> 204
            covering 9 -1 -> 2
            covering 9 0 -> 1
            covering 9 1 -> 4
            """);
        Script.run("lockOf", SOME + """
            lockOf 1 -> 114724
            lockOf 2 -> 131078
            lockOf 3 -> 147460
            lockOf 4 -> 163842
            lockOf 5 -> -1
            lockOf 0 -> -1
            lockOf -1 -> -1
            lockOf MAX -> -1
            lockOf MIN -> -1
            """);
        Script.run("lockOf the greatest path", """
            mkcol 7 -> 201
            mkcol 63 -> 201
            mkcol 511 -> 201
            tick 1000 -> 200
            lock 4095 true true 100 -> 201
            lockOf 1 -> 18038783
            """);
        lateEnd();
        Script.end();
    }

    /** An end so late that end * 16384 is no int. */
    private static void lateEnd() {
        LockedTree tree = new LockedTree();
        for (int i = 0; i < 500; i++) {
            Script.due("tick(1000)", tree.tick(1000), 200);
        }
        Script.due("lock(0, true, true, 100)", tree.lock(0, true, true, 100), 200);
        Script.due("lockOf(1)", tree.lockOf(1), 500100L * 16384 + 3);
    }
}
