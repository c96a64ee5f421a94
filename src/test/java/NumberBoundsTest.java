import java.util.ArrayList;
import java.util.List;

/**
 * "400: .. not 0 .. 999999" and its like: every number that a request or fail() takes, at each
 * bound, on either side of it, and far away. What is taken also shows afterwards.
 */
public final class NumberBoundsTest {
    private static final String THERE = "put 1 5 -> 201\n";
    private static final String LOCKED = THERE + "lock 1 true false 50 -> 200\ntick 7 -> 200\nhead (t1)\n";

    public static void main(String[] args) {
        for (int n : around(0, 999999)) {
            body(n);
        }
        for (int n : around(0, 2)) {
            key(n);
        }
        for (int n : around(0, 999)) {
            value(n);
        }
        for (int n : around(1, 100)) {
            lockTime(n);
            refreshTime(n);
        }
        for (int n : around(0, 1000)) {
            ticks(n);
        }
        for (int n : around(-1, 100)) {
            failure(n);
        }
        for (int n : around(1, 1)) {
            token(n);
        }
        Script.end();
    }

    private static List<Integer> around(int least, int greatest) {
        List<Integer> numbers = new ArrayList<>(List.of(Integer.MIN_VALUE, -1000000, Integer.MAX_VALUE,
            65536 + least, -greatest, (least + greatest) / 2));
        for (int d = -2; d <= 2; d++) {
            numbers.add(least + d);
            numbers.add(greatest + d);
        }
        return numbers;
    }

    private static boolean taken(int n, int least, int greatest) {
        return least <= n && n <= greatest;
    }

    private static void body(int n) {
        boolean taken = taken(n, 0, 999999);
        Script.run("a new body " + n, "put 1 " + n + " -> " + (taken ? 201 : 400)
            + "; body 1 -> " + (taken ? n : -1) + "; listing -1 -> " + (taken ? 1 : 0));
        Script.run("another body " + n, THERE + "put 1 " + n + " -> " + (taken ? 204 : 400)
            + "; body 1 -> " + (taken ? n : 5) + "; stamp 1 -> " + (taken ? 2 : 1));
    }

    private static void key(int n) {
        boolean taken = taken(n, 0, 2);
        Script.run("key " + n, THERE + "patch 1 " + n + " 77 -> " + (taken ? 200 : 400)
            + "; property 1 " + n + " -> " + (taken ? 77 : -1)
            + "; property 1 0 -> " + (n == 0 ? 77 : 0) + "; property 1 1 -> " + (n == 1 ? 77 : 0)
            + "; property 1 2 -> " + (n == 2 ? 77 : 0));
        Script.run("key " + n + " of nothing", "patch 1 " + n + " 77 -> " + (taken ? 404 : 400)
            + "; property 1 " + n + " -> -1; property 8 " + n + " -> -1");
    }

    private static void value(int n) {
        boolean taken = taken(n, 0, 999);
        Script.run("value " + n, THERE + "patch 1 1 3 -> 200; patch 1 1 " + n + " -> " + (taken ? 200 : 400)
            + "; property 1 1 -> " + (taken ? n : 3));
    }

    private static void lockTime(int n) {
        boolean taken = taken(n, 1, 100);
        Script.run("time " + n, THERE + "tick 7 -> 200; lock 1 true false " + n + " -> " + (taken ? 200 : 400)
            + "; lockOf 1 -> " + (taken ? (7 + n) * 16384L + 4 + 1 : -1));
        Script.run("time " + n + " for what is new", "lock 1 true false " + n + " -> " + (taken ? 201 : 400)
            + "; kind 1 -> " + (taken ? 1 : 0));
    }

    private static void refreshTime(int n) {
        boolean taken = taken(n, 1, 100);
        Script.run("refresh for " + n, LOCKED + "refresh 1 " + n + " -> " + (taken ? 200 : 400)
            + "; lockOf 1 -> " + ((taken ? 7 + n : 50) * 16384L + 4 + 1));
    }

    private static void ticks(int n) {
        boolean taken = taken(n, 0, 1000);
        Script.run("tick " + n, "tick 5 -> 200; tick " + n + " -> " + (taken ? 200 : 400)
            + "; lock 0 false false 1 -> 200; lockOf 1 -> " + ((taken ? n : 0) + 6) * 16384L);
    }

    /** A request with one change makes three writes, so the failures 0, 1 and 2 show. */
    private static void failure(int n) {
        boolean taken = taken(n, -1, 100);
        boolean interrupts = taken && n >= 0 && n < 3;
        Script.run("fail " + n, "fail " + n + " -> " + (taken ? 1 : 0) + "; put 1 1 -> " + (interrupts ? 0 : 201)
            + "; writes -> " + (interrupts ? n : 3));
        int left = taken ? n : 1;
        boolean stillInterrupts = left >= 0 && left < 3;
        Script.run("fail 1, then " + n, "fail 1 -> 1; fail " + n + " -> " + (taken ? 1 : 0)
            + "; put 1 1 -> " + (stillInterrupts ? 0 : 201) + "; writes -> " + (stillInterrupts ? left : 3));
    }

    /** Any token may be asked for; only 1 is one here. */
    private static void token(int n) {
        Script.run("unlock " + n, THERE + "lock 1 true false 50 -> 200; lockOf " + n + " -> "
            + (n == 1 ? 50 * 16384L + 5 : -1) + "; unlock 1 " + n + " -> " + (n == 1 ? 204 : 409)
            + "; covering 1 -1 -> " + (n == 1 ? 0 : 1));
    }
}
