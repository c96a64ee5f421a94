/** Promise 13. */
public final class TickTest {
    public static void main(String[] args) {
        Script.run("locks go when their end is reached, not before", """
            put 1 1 -> 201
            put 2 1 -> 201
            lock 1 true false 5 -> 200
            lock 2 true false 6 -> 200
            tick 4 -> 200
            lockOf 1 -> 81925
            put 1 2 -> 423
            tick 1 -> 200
            lockOf 1 -> -1
            lockOf 2 -> 98313
            put 1 2 -> 204
            tick 1000 -> 200
            lockOf 2 -> -1
            lock 0 true false 1 -> 200
            lockOf 3 -> 16482305
            kind 1 -> 1
            """);
        Script.run("writes for the clock and for every lock that goes", """
            lock 0 false false 5 -> 200
            lock 0 false false 5 -> 200
            lock 0 false false 6 -> 200
            writes -> 9
            tick 0 -> 200
            writes -> 9
            tick 1 -> 200
            writes -> 12
            tick 4 -> 200
            writes -> 19
            covering 0 -1 -> 1
            """);
        Script.run("400", """
            lock 0 false false 1 -> 200
            tick -1 -> 400
            tick 1001 -> 400
            tick MIN -> 400
            tick MAX -> 400
            lockOf 1 -> 16384
            """);
        Script.run("the request's path is 0", """
            put 1 1 -> 201
            head (e0)
            tick 1 -> 200
            head (e1)
            tick 1 -> 412
            lock 0 true false 5 -> 200
            lockOf 1 -> 98305
            head (t1)
            tick 1 -> 200
            """);
        Script.run("locks bar no tick", """
            lock 0 true true 5 -> 200
            tick 1 -> 200
            """);
        Script.end();
    }
}
