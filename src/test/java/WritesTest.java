/** Promise 21: the writes of each request. */
public final class WritesTest {
    public static void main(String[] args) {
        Script.run("each request by itself", """
            writes -> 0
            mkcol 1 -> 201
            writes -> 3
            put 9 1 -> 201
            writes -> 6
            put 9 1 -> 204          # the stamp is another
            writes -> 9
            patch 9 0 5 -> 200
            writes -> 12
            patch 9 0 5 -> 200
            writes -> 12
            copy 1 2 true false -> 201
            writes -> 17
            move 2 3 false -> 201
            writes -> 26
            lock 3 true false 5 -> 200
            writes -> 29
            lock 4 true false 5 -> 201
            writes -> 34
            head (t2)
            refresh 4 5 -> 200      # the end is the same
            writes -> 34
            head (t2)
            refresh 4 6 -> 200
            writes -> 37
            tick 5 -> 200           # the clock and the lock 1
            writes -> 42
            unlock 4 2 -> 204
            writes -> 45
            tick 0 -> 200
            writes -> 45
            delete 3 -> 204
            writes -> 50
            """);
        Script.run("refused requests write nothing", """
            put 8 1 -> 400
            delete 0 -> 403
            delete 1 -> 404
            put 0 1 -> 405
            put 9 1 -> 409
            refresh 0 1 -> 412
            lock 0 true true 5 -> 200
            put 1 1 -> 423
            writes -> 3
            """);
        Script.run("interrupted requests write what they could", """
            fail 0 -> 1
            put 1 1 -> 0
            writes -> 0
            fail 1 -> 1
            put 1 1 -> 0
            writes -> 1
            fail 4 -> 1
            lock 1 true true 9 -> 0
            writes -> 5
            kind 1 -> 1
            lockOf 1 -> 147463
            """);
        Script.end();
    }
}
