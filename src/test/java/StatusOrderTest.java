/**
 * "Each answers the first status of these that applies .. in that order": for every request, each
 * two statuses that can apply at once. Where the first one's cause is taken away, the second shows.
 */
public final class StatusOrderTest {
    /** The collections 1, 9 and 2, the documents 73 and 3; all but 3 barred by deep locks. */
    private static final String LOCKED = """
        mkcol 1 -> 201
        mkcol 9 -> 201
        put 73 5 -> 201
        mkcol 2 -> 201
        put 3 6 -> 201
        lock 1 true true 9 -> 200
        lock 2 true true 9 -> 200
        """;

    /** As many resources as there can be, and a lock with the token 1 on 1 alone. */
    private static final String FULL = Texts.TWELVE + "lock 1 true false 9 -> 200\n";

    public static void main(String[] args) {
        numbersFirst();
        put();
        mkcol();
        delete();
        copy();
        move();
        locks();
        others();
        Script.end();
    }

    /** A number that is not as said and a broken header are 400 before a header that fails. */
    private static void numbersFirst() {
        String[] wrong = {"put 8 1", "put 1 -1", "put 1 1000000", "mkcol 8", "delete 8",
            "copy 8 1 true true", "copy 1 8 true true", "move 8 1 true", "move 1 8 true", "patch 8 0 0",
            "patch 0 3 0", "patch 0 0 1000", "lock 8 true true 1", "lock 0 true true 101",
            "refresh 8 1", "refresh 0 0", "unlock 8 1", "tick -1", "tick 1001"};
        for (String request : wrong) {
            Script.run("400 before 412", "head (e9);" + request + " -> 400");
            Script.run("400 for both", "head (e9;" + request + " -> 400");
            Script.run("400 with a header that holds", "head /0(e0);" + request + " -> 400");
        }
        String[] right = {"put 1 1", "put 0 1", "put 9 1", "mkcol 1", "mkcol 0", "mkcol 9", "delete 0",
            "delete 1", "copy 0 0 true true", "copy 1 2 true true", "move 0 1 true", "move 1 2 true",
            "patch 0 0 0", "patch 1 0 0", "lock 0 true true 1", "lock 9 true true 1", "refresh 0 1",
            "unlock 0 1", "tick 0", "tick 1000"};
        for (String request : right) {
            Script.run("400 before 412 and all others", "head (e9)(;" + request + " -> 400");
            Script.run("412 before all others", "head (e9);" + request + " -> 412");
        }
    }

    private static void put() {
        Script.run("put: 405 before 423", LOCKED + "put 1 1 -> 405; put 10 1 -> 423");
        Script.run("put: 405 in a full tree", FULL + "put 1 1 -> 405; put 0 1 -> 405");
        Script.run("put: 409 before 423", LOCKED + "put 585 1 -> 409; put 73 1 -> 423");
        Script.run("put: 409 before 507", FULL + "put 17 1 -> 409; head /1(t1); put 14 1 -> 507");
        Script.run("put: 423 before 507", FULL + "put 14 1 -> 423; head /1(t1); put 14 1 -> 507");
    }

    private static void mkcol() {
        Script.run("mkcol: 405 before 423", LOCKED + "mkcol 9 -> 405; mkcol 10 -> 423");
        Script.run("mkcol: 405 before 507", FULL + "mkcol 2 -> 405; mkcol 0 -> 405");
        Script.run("mkcol: 409 before 423", LOCKED + "mkcol 585 -> 409; mkcol 74 -> 423");
        Script.run("mkcol: 409 before 507", FULL + "mkcol 17 -> 409; head /1(t1); mkcol 14 -> 507");
        Script.run("mkcol: 423 before 507", FULL + "mkcol 14 -> 423; head /1(t1); mkcol 14 -> 507");
    }

    private static void delete() {
        Script.run("delete: 403 before 423", "lock 0 true false 9 -> 200; delete 0 -> 403; put 1 1 -> 423");
        Script.run("delete: 404 before 423", LOCKED + "delete 10 -> 404; delete 9 -> 423");
    }

    private static void copy() {
        Script.run("copy: 403 before 404", "copy 1 9 true true -> 403; copy 1 2 true true -> 404");
        Script.run("copy: 403 before 409", LOCKED + "copy 3 25 true true -> 403; copy 3 33 true true -> 409");
        Script.run("copy: 403 before 412", LOCKED + "copy 73 9 true false -> 403; copy 3 9 true false -> 412");
        Script.run("copy: 403 before 423", LOCKED + "copy 73 9 true true -> 403; copy 3 9 true true -> 423");
        Script.run("copy: 403 before 507", FULL + "copy 1 14 true true -> 403; copy 1 2 true true -> 507");
        Script.run("copy: 404 before 409", LOCKED + "copy 4 41 true true -> 404; copy 3 41 true true -> 409");
        Script.run("copy: 404 before 412", LOCKED + "copy 4 2 true false -> 404; copy 3 2 true false -> 412");
        Script.run("copy: 404 before 423", LOCKED + "copy 4 2 true true -> 404; copy 3 2 true true -> 423");
        Script.run("copy: 409 before 423", LOCKED + "copy 3 585 true true -> 409; copy 3 74 true true -> 423");
        Script.run("copy: 409 before 507", FULL
            + "copy 2 25 true true -> 409; head /1(t1); copy 2 14 true true -> 507");
        Script.run("copy: 412 before 423", LOCKED + "copy 3 2 true false -> 412; copy 3 2 true true -> 423");
        Script.run("copy: 412 before 507", FULL + "copy 1 2 true false -> 412; copy 1 2 true true -> 507");
        Script.run("copy: 423 before 507 for the number", FULL
            + "copy 2 14 true true -> 423; head /1(t1); copy 2 14 true true -> 507");
        Script.run("copy: 423 before 507 for the names", LOCKED + "mkcol 4 -> 201; mkcol 36 -> 201;"
            + "lock 36 true false 9 -> 200; copy 1 292 true true -> 423;"
            + "head /36(t3); copy 1 292 true true -> 507; head /36(t3); copy 9 292 true true -> 201");
    }

    private static void move() {
        Script.run("move: 403 before 404", "move 1 9 true -> 403; move 1 2 true -> 404");
        Script.run("move: 403 before 409", LOCKED + "move 3 25 true -> 403; move 3 33 true -> 409");
        Script.run("move: 403 before 412", LOCKED + "move 73 9 false -> 403; move 3 9 false -> 412");
        Script.run("move: 403 before 423", LOCKED + "move 73 9 true -> 403; move 3 9 true -> 423;"
            + "move 0 4 true -> 403; move 2 4 true -> 423");
        Script.run("move: 404 before 409", LOCKED + "move 4 41 true -> 404; move 3 41 true -> 409");
        Script.run("move: 404 before 412", LOCKED + "move 4 2 false -> 404; move 3 2 false -> 412");
        Script.run("move: 404 before 423", LOCKED + "move 4 2 true -> 404; move 10 4 true -> 404;"
            + "move 3 2 true -> 423; move 9 4 true -> 423");
        Script.run("move: 409 before 423", LOCKED + "move 3 585 true -> 409; move 2 33 true -> 409;"
            + "move 3 74 true -> 423; move 2 4 true -> 423");
        Script.run("move: 412 before 423", LOCKED + "move 3 2 false -> 412; move 2 3 false -> 412;"
            + "move 3 2 true -> 423; move 2 3 true -> 423");
        Script.run("move: 423 before 507", LOCKED + "mkcol 4 -> 201; mkcol 36 -> 201;"
            + "move 1 292 true -> 423; head /1(t1); move 1 292 true -> 507;"
            + "head /1(t1); move 9 292 true -> 201");
    }

    private static void locks() {
        Script.run("lock: 409 before 423", LOCKED + "lock 585 true true 9 -> 409; lock 74 true true 9 -> 423");
        Script.run("lock: 409 before 507", FULL + "lock 17 true true 9 -> 409; head /1(t1); lock 14 true true 9 -> 507");
        Script.run("lock: 409 before 507 for locks", "lock 0 false false 9 -> 200\n".repeat(6)
            + "lock 9 false false 9 -> 409; lock 0 false false 9 -> 507");
        Script.run("lock: 423 before 507", FULL + "lock 14 true true 9 -> 423; head /1(t1); lock 14 true true 9 -> 507");
        Script.run("lock: 423 before 507 for locks", "lock 0 false false 9 -> 200\n".repeat(6)
            + "lock 0 true false 9 -> 423; lock 0 false false 9 -> 507");
        Script.run("refresh: the header's 412 and its own", "lock 0 true false 9 -> 200;"
            + "head (t2); refresh 0 5 -> 412; refresh 0 5 -> 412; head (t1); refresh 0 5 -> 200");
    }

    private static void others() {
        Script.run("patch: 404 before 423", LOCKED + "patch 10 0 1 -> 404; patch 9 0 1 -> 423");
        Script.run("unlock: 412 before 409", LOCKED + "head (t9); unlock 3 1 -> 412; unlock 3 1 -> 409");
    }
}
