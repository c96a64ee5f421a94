/** Promise 12. */
public final class UnlockTest {
    public static void main(String[] args) {
        Script.run("a lock is gone, the others stay", """
            put 1 1 -> 201
            lock 1 false false 9 -> 200
            lock 1 false true 9 -> 200
            lock 0 false false 9 -> 200
            writes -> 12
            unlock 1 2 -> 204
            writes -> 15
            lockOf 2 -> -1
            lockOf 1 -> 147460
            lockOf 3 -> 147456
            covering 1 -1 -> 1
            unlock 1 2 -> 409
            unlock 1 1 -> 204
            put 1 2 -> 204
            """);
        Script.run("from any path that it covers", """
            lock 0 true true 9 -> 200
            unlock 585 1 -> 204
            covering 0 -1 -> 0
            """);
        Script.run("409", """
            mkcol 1 -> 201
            put 9 1 -> 201
            lock 1 true false 9 -> 200
            unlock 9 1 -> 409
            unlock 0 1 -> 409
            unlock 1 2 -> 409
            unlock 1 0 -> 409
            unlock 1 -1 -> 409
            unlock 1 MAX -> 409
            unlock 1 MIN -> 409
            lockOf 1 -> 147461
            """);
        Script.run("400 and the header", """
            lock 0 true true 9 -> 200
            unlock 8 1 -> 400
            unlock -1 1 -> 400
            unlock 4096 1 -> 400
            head (!t1)
            unlock 0 1 -> 412
            head (t1)
            unlock 0 1 -> 204
            """);
        Script.run("no token need be submitted, and what was locked stays", """
            lock 1 true false 9 -> 201
            unlock 1 1 -> 204
            kind 1 -> 1
            """);
        Script.end();
    }
}
