/**
 * "An object is used for at most 512 calls": the 512th is answered as well as the first. What comes
 * later is free, but no call may ever throw or fail to end.
 */
public final class LastCallsTest {
    private static final int CALLS = 512;

    public static void main(String[] args) {
        stamps();
        stampsOfFourDigits();
        tokens();
        writes();
        clock();
        laterCallsEnd();
        Script.end();
    }

    private static void stamps() {
        LockedTree tree = new LockedTree();
        for (int call = 1; call < CALLS; call++) {
            Script.due("put number " + call, tree.put(1, call), call == 1 ? 201 : 204);
        }
        Script.due("the stamp after 511 puts", tree.stamp(1), 511);
    }

    /** Each copy gives six stamps, so that the last ones have four digits. */
    private static void stampsOfFourDigits() {
        LockedTree tree = Script.after("a branch of six", """
            mkcol 1 -> 201; put 9 1 -> 201; put 10 1 -> 201; put 11 1 -> 201; put 12 1 -> 201; put 13 1 -> 201
            """);
        int calls = 6;
        for (; calls < 480; calls++) {
            Script.due("copy number " + calls, tree.copy(1, 2, true, true), calls == 6 ? 201 : 204);
        }
        int last = 6 + 6 * (480 - 6);
        Script.on("four digits", tree, "stamp 21 -> " + last + "; head (e" + last + "); put 21 5 -> 204;"
            + "stamp 21 -> " + (last + 1) + "; head (e" + last + "); put 21 6 -> 412");
    }

    private static void tokens() {
        LockedTree tree = new LockedTree();
        for (int token = 1; token <= 255; token++) {
            Script.due("lock number " + token, tree.lock(0, true, true, 100), 200);
            Script.due("unlock number " + token, tree.unlock(0, token), 204);
        }
        Script.due("the last lock", tree.lock(0, true, true, 100), 200);
        Script.due("its token", tree.covering(0, 0), 256);
    }

    private static void writes() {
        LockedTree tree = Script.after("twelve resources", Texts.ELEVEN_BELOW);
        for (int call = 12; call < CALLS - 1; call++) {
            boolean there = call % 2 == 0;
            Script.due("move number " + call, tree.move(there ? 1 : 2, there ? 2 : 1, false), 201);
        }
        Script.due("writes of 12 and of 499 calls", tree.writes(), 12 * 3 + 499 * 49);
    }

    private static void clock() {
        LockedTree tree = new LockedTree();
        for (int call = 1; call <= CALLS - 2; call++) {
            Script.due("tick number " + call, tree.tick(1000), 200);
        }
        Script.due("the last lock", tree.lock(0, true, true, 100), 200);
        Script.due("its end is no int any more", tree.lockOf(1), 510100L * 16384 + 3);
    }

    /** The clock passes the greatest int here. */
    private static void laterCallsEnd() {
        LockedTree tree = new LockedTree();
        for (int call = 0; call < 2_200_000; call++) {
            tree.tick(1000);
        }
        for (int call = 0; call < 100_000; call++) {
            tree.lock(call % 9, call % 2 == 0, call % 3 == 0, 1 + call % 100);
            tree.put(call % 90, call);
            tree.head("(t1)/9!e".charAt(call % 8));
            tree.copy(call % 7, call % 11, true, true);
            tree.delete(call % 10);
        }
        Script.due("it still answers", tree.head('x') ? 1 : 0, 0);
    }
}
