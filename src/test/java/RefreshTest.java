/** Promise 11. */
public final class RefreshTest {
    public static void main(String[] args) {
        Script.run("the end is counted from now", """
            put 1 1 -> 201
            lock 1 true false 10 -> 200
            tick 4 -> 200
            head (t1)
            refresh 1 100 -> 200
            lockOf 1 -> 1703941
            head (t1)
            refresh 1 1 -> 200
            lockOf 1 -> 81925
            writes -> 15
            head (t1)
            refresh 1 1 -> 200
            writes -> 15
            tick 1 -> 200
            lockOf 1 -> -1
            """);
        Script.run("400", """
            lock 0 true true 10 -> 200
            head (t1)
            refresh 8 1 -> 400
            head (t1)
            refresh -1 1 -> 400
            head (t1)
            refresh 4096 1 -> 400
            head (t1)
            refresh 0 0 -> 400
            head (t1)
            refresh 0 101 -> 400
            head (t1)
            refresh 0 MAX -> 400
            head (t1)
            refresh 0 MIN -> 400
            lockOf 1 -> 163843
            """);
        Script.run("412", """
            refresh 0 5 -> 412
            put 1 1 -> 201
            lock 1 true false 10 -> 200
            refresh 1 5 -> 412
            head /1(t1)
            refresh 0 5 -> 412
            head (e1)
            refresh 1 5 -> 412
            head (!t2)
            refresh 1 5 -> 412
            head (t1e7)
            refresh 1 5 -> 412
            lockOf 1 -> 163845
            """);
        Script.run("a negated token is submitted, too", """
            put 1 1 -> 201
            lock 1 true false 10 -> 200
            head /0(!t1)
            refresh 1 5 -> 200
            lockOf 1 -> 81925
            """);
        Script.run("the least token of those that cover the path and are submitted", """
            mkcol 1 -> 201
            put 9 1 -> 201
            lock 1 false false 10 -> 200
            lock 1 false true 10 -> 200
            lock 9 false false 10 -> 200
            head (t3t2)
            refresh 9 20 -> 200
            lockOf 1 -> 163844
            lockOf 2 -> 327686
            lockOf 3 -> 163876
            head (t3)
            refresh 9 30 -> 200
            lockOf 3 -> 491556
            head /1(t1)
            refresh 9 30 -> 412
            """);
        Script.run("below a deep lock there need be no resource", """
            lock 0 true true 10 -> 200
            head (t1)
            refresh 585 20 -> 200
            lockOf 1 -> 327683
            """);
        Script.end();
    }
}
