/**
 * "With 400, 403, 404, 405, 409, 412, 423 and 507 nothing changes (but the header is empty then)":
 * each status of each request, on an object that is compared with a twin that was not asked. And
 * "A failure is set for the next request alone, whatever that does": each time with one set, too.
 */
public final class RefusedTest {
    /** 9 and 3 are barred by locks of their own, 2 and 17 by a deep one; the clock is 3. */
    private static final String BUSY = """
        mkcol 1 -> 201
        mkcol 9 -> 201
        put 73 5 -> 201
        put 10 6 -> 201
        mkcol 2 -> 201
        put 17 7 -> 201
        put 3 8 -> 201
        patch 73 1 44 -> 200
        patch 0 2 5 -> 200
        tick 3 -> 200
        lock 9 true false 50 -> 200
        lock 2 true true 60 -> 200
        lock 3 false false 70 -> 200
        """;
    private static final String FULL = Texts.TWELVE + "lock 2 true false 50 -> 200\n";
    private static final String SIX_LOCKS = BUSY + "lock 3 false false 9 -> 200\n".repeat(3);
    private static final String TWO_CHAINS = """
        mkcol 1 -> 201
        mkcol 9 -> 201
        put 73 5 -> 201
        mkcol 2 -> 201
        mkcol 18 -> 201
        """;

    public static void main(String[] args) {
        writing();
        deleting();
        copying();
        moving();
        patching();
        locking();
        ticking();
        Script.end();
    }

    private static void each(String setup, String... requests) {
        for (String request : requests) {
            for (String failure : new String[] {"", "fail 0 -> 1;", "fail 100 -> 1;"}) {
                String title = "refused: " + failure + request;
                LockedTree asked = Script.after(title, setup);
                LockedTree twin = Script.after(title, setup);
                Script.on(title, asked, failure + request);
                Script.due(title + ": writes", asked.writes(), twin.writes());
                Script.same(title + ": what is seen", Snapshot.visible(asked), Snapshot.visible(twin));
                Script.same(title + ": what comes next", Snapshot.future(asked), Snapshot.future(twin));
            }
        }
    }

    private static void writing() {
        each(BUSY, "put 8 1 -> 400", "put 10 -1 -> 400", "put 10 1000000 -> 400", "head (; put 4 1 -> 400",
            "head (e4)(; put 10 1 -> 400", "head (t9); put 4 1 -> 412", "head (e3); put 10 1 -> 412",
            "put 0 1 -> 405", "put 1 1 -> 405", "put 33 1 -> 409", "put 81 1 -> 409", "put 3 1 -> 423",
            "put 17 1 -> 423", "put 74 1 -> 423", "put 18 1 -> 423", "head /9(t1); put 3 1 -> 423");
        each(FULL, "put 14 1 -> 507", "head /2(t1); put 14 1 -> 507");
        each(BUSY, "mkcol 8 -> 400", "head ); mkcol 4 -> 400", "head (t1); mkcol 4 -> 412",
            "mkcol 0 -> 405", "mkcol 1 -> 405", "mkcol 3 -> 405", "mkcol 33 -> 409", "mkcol 25 -> 409",
            "mkcol 74 -> 423", "mkcol 18 -> 423");
        each(FULL, "mkcol 14 -> 507");
    }

    private static void deleting() {
        each(BUSY, "delete 8 -> 400", "head t1; delete 10 -> 400", "head (e3); delete 10 -> 412",
            "delete 0 -> 403", "delete 4 -> 404", "delete 12 -> 404", "delete 3 -> 423",
            "delete 9 -> 423", "delete 73 -> 423", "delete 17 -> 423");
    }

    private static void copying() {
        each(BUSY, "copy 8 4 true true -> 400", "copy 1 8 true true -> 400",
            "head /8(e0); copy 1 4 true true -> 400", "head (e2); copy 1 4 true true -> 412",
            "copy 1 0 true true -> 403", "copy 1 1 true true -> 403", "copy 1 11 true true -> 403",
            "copy 10 1 true true -> 403", "copy 0 4 true true -> 403", "copy 4 5 true true -> 404",
            "copy 1 33 true true -> 409", "copy 1 3 true false -> 412", "copy 9 10 true false -> 412",
            "copy 1 3 true true -> 423", "copy 10 9 true true -> 423", "copy 3 9 true true -> 423",
            "copy 3 74 true true -> 423", "copy 3 1 true true -> 423", "copy 10 18 true true -> 423");
        each(TWO_CHAINS, "copy 1 146 true true -> 507");
        each(FULL, "copy 3 14 true true -> 507", "copy 1 3 true true -> 507");
    }

    private static void moving() {
        each(BUSY, "move 8 4 true -> 400", "move 1 8 true -> 400", "head (e4)); move 10 4 true -> 400",
            "head (!e4); move 10 4 true -> 412", "move 10 0 true -> 403", "move 0 4 true -> 403",
            "move 1 1 true -> 403", "move 1 11 true -> 403", "move 10 1 true -> 403",
            "move 4 5 true -> 404", "move 10 33 true -> 409", "move 10 3 false -> 412",
            "move 10 3 true -> 423", "move 10 74 true -> 423", "move 3 4 true -> 423",
            "move 1 4 true -> 423", "move 73 4 true -> 423", "move 10 18 true -> 423");
        each(TWO_CHAINS, "move 1 146 true -> 507");
    }

    private static void patching() {
        each(BUSY, "patch 8 0 1 -> 400", "patch 10 -1 1 -> 400", "patch 10 3 1 -> 400",
            "patch 10 0 -1 -> 400", "patch 10 0 1000 -> 400", "head (e); patch 10 0 1 -> 400",
            "head (e9); patch 10 0 1 -> 412", "patch 4 0 1 -> 404", "patch 3 0 1 -> 423",
            "patch 17 0 1 -> 423");
    }

    private static void locking() {
        each(BUSY, "lock 8 true true 1 -> 400", "lock 10 true true 0 -> 400", "lock 10 true true 101 -> 400",
            "head /; lock 10 true true 1 -> 400", "head (t3); lock 10 true true 1 -> 412",
            "lock 33 true true 1 -> 409", "lock 81 true true 1 -> 409", "lock 74 true false 1 -> 423",
            "lock 18 false false 1 -> 423", "lock 9 false false 1 -> 423", "lock 3 true false 1 -> 423",
            "lock 0 false true 1 -> 423", "lock 1 true true 1 -> 423");
        each(SIX_LOCKS, "lock 10 true true 1 -> 507", "lock 4 true true 1 -> 507");
        each(FULL, "lock 14 true true 1 -> 507");
        each(BUSY, "head (t1); refresh 8 1 -> 400", "head (t1); refresh 9 0 -> 400",
            "head (t1); refresh 9 101 -> 400", "head t1; refresh 9 9 -> 400", "refresh 9 9 -> 412",
            "head (t2); refresh 9 9 -> 412", "head /9(t1); refresh 10 9 -> 412",
            "head (t1e9); refresh 9 9 -> 412", "unlock 8 1 -> 400", "head (t1; unlock 9 1 -> 400",
            "head (!t1); unlock 9 1 -> 412", "unlock 9 2 -> 409", "unlock 73 1 -> 409",
            "unlock 3 4 -> 409", "unlock 3 0 -> 409");
    }

    private static void ticking() {
        each(BUSY, "tick -1 -> 400", "tick 1001 -> 400", "head !; tick 5 -> 400", "head (e1); tick 60 -> 412");
    }
}
