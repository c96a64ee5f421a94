/**
 * "The CLOCK is 0 at first; a lock goes when the clock is at its end or beyond": one before the
 * end, at the end, and after it, for every time that a lock can have.
 */
public final class ClockTest {
    public static void main(String[] args) {
        for (int time = 1; time <= 100; time++) {
            for (int passed = time - 1; passed <= time + 1; passed++) {
                atOnce(time, passed);
                inSteps(time, passed);
                afterRefresh(time, passed);
            }
            farBeyond(time);
        }
        Script.run("each lock at its own end", """
            lock 0 false false 3 -> 200
            lock 0 false false 1 -> 200
            lock 0 false false 2 -> 200
            tick 1 -> 200
            covering 0 -1 -> 2
            covering 0 0 -> 1
            covering 0 1 -> 3
            tick 1 -> 200
            covering 0 -1 -> 1
            covering 0 0 -> 1
            tick 1 -> 200
            covering 0 -1 -> 0
            """);
        Script.run("what a lock has made stays when the lock goes", """
            lock 1 true false 1 -> 201
            tick 1 -> 200
            kind 1 -> 1
            covering 1 -1 -> 0
            put 1 1 -> 204
            """);
        Script.run("conditions are looked at before the clock goes on", """
            lock 0 true false 5 -> 200
            head (t1)
            tick 5 -> 200
            lockOf 1 -> -1
            head (t1)
            tick 5 -> 412
            """);
        Script.run("a clock that does not go on makes no lock go", """
            lock 0 true false 1 -> 200
            tick 0 -> 200
            lockOf 1 -> 16385
            tick 1001 -> 400
            tick -1 -> 400
            head (e1)
            tick 1 -> 412
            fail 1 -> 1
            tick 1 -> 0
            lockOf 1 -> 16385
            tick 1 -> 200
            lockOf 1 -> -1
            """);
        Script.end();
    }

    private static String locked(int time) {
        return "tick 11 -> 200; put 1 1 -> 201; lock 1 true false " + time + " -> 200\n";
    }

    private static String after(int time, int passed) {
        boolean gone = passed >= time;
        return "; lockOf 1 -> " + (gone ? -1 : (11 + time) * 16384 + 4 + 1)
            + "; covering 1 -1 -> " + (gone ? 0 : 1) + "; put 1 2 -> " + (gone ? 204 : 423);
    }

    private static void atOnce(int time, int passed) {
        Script.run("time " + time + ", " + passed + " at once", locked(time)
            + "tick " + passed + " -> 200" + after(time, passed));
    }

    private static void inSteps(int time, int passed) {
        int first = passed / 3;
        Script.run("time " + time + ", " + passed + " in steps", locked(time)
            + "tick " + first + " -> 200; tick 0 -> 200; tick " + (passed - first) + " -> 200" + after(time, passed));
    }

    /** The lock lasted to 100 at first; its new end counts, be it sooner or later. */
    private static void afterRefresh(int time, int passed) {
        Script.run("refreshed for " + time + ", " + passed + " later", "put 1 1 -> 201; lock 1 true false 100 -> 200;"
            + "tick 11 -> 200; head (t1); refresh 1 " + time + " -> 200; tick " + passed + " -> 200" + after(time, passed));
    }

    private static void farBeyond(int time) {
        Script.run("time " + time + ", far beyond", locked(time) + "tick 1000 -> 200" + after(time, 1000));
    }
}
