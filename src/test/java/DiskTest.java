/**
 * The terms of the disk: K changes make 2K + 1 writes, and none when K is 0. Every request is run
 * with every failure that can be set: up to K nothing has changed, beyond K everything has, and
 * from 2K + 1 on it is not interrupted at all.
 */
public final class DiskTest {
    private static final String LOCKED = Texts.BRANCH + """
        patch 10 0 5 -> 200
        lock 10 true false 9 -> 200
        lock 2 false false 9 -> 200
        """;
    private static final String SIX_LOCKS = Texts.ELEVEN_BELOW + "lock 1 false true 9 -> 200\n".repeat(6);

    public static void main(String[] args) {
        documentsAndCollections();
        copiesAndMoves();
        locksAndTheClock();
        Script.end();
    }

    /** The request is the last of the calls; changes is the K that the document's words give it. */
    private static void all(int changes, String setup, String header, String request) {
        LockedTree undone = Script.after(request, setup);
        LockedTree done = Script.after(request, setup + header + request);
        int writes = changes == 0 ? 0 : changes + 1 + changes;
        Script.due(request + ": writes", done.writes() - undone.writes(), writes);
        String seenUndone = Snapshot.visible(undone);
        String nextUndone = Snapshot.future(undone);
        String seenDone = Snapshot.visible(done);
        String nextDone = Snapshot.future(done);
        for (int n = -1; n <= 100; n++) {
            String title = request + " with failure " + n;
            boolean interrupted = n != -1 && writes > n;
            boolean unchanged = interrupted && n <= changes;
            LockedTree tree = Script.after(title, setup + "fail " + n + " -> 1\n" + header);
            int before = tree.writes();
            Script.on(title, tree, interrupted ? request.replaceFirst("->.*", "-> 0") : request);
            Script.due(title + ": writes", tree.writes() - before, interrupted ? n : writes);
            Script.same(title + ": what is seen", Snapshot.visible(tree), unchanged ? seenUndone : seenDone);
            Script.same(title + ": what comes next", Snapshot.future(tree), unchanged ? nextUndone : nextDone);
        }
    }

    private static void documentsAndCollections() {
        all(1, "", "", "put 1 5 -> 201");
        all(1, LOCKED, "head (t1);", "put 10 6 -> 204");
        all(1, LOCKED, "head (!e1);", "mkcol 3 -> 201");
        all(1, LOCKED, "", "delete 585 -> 204");
        all(3, LOCKED, "", "delete 9 -> 204");
        all(2, LOCKED, "head (t2);", "delete 2 -> 204");
        all(6, LOCKED, "head /10(t1);", "delete 1 -> 204");
        all(3, LOCKED, "head (e1);", "delete 1 -> 207");
        all(0, LOCKED + "delete 1 -> 207\n", "", "delete 1 -> 207");
        all(18, SIX_LOCKS, "head (t1);", "delete 1 -> 204");
        all(1, LOCKED, "head (e4);", "patch 585 2 999 -> 200");
        all(1, LOCKED, "", "patch 0 0 1 -> 200");
        all(0, LOCKED, "", "patch 585 2 0 -> 200");
        all(0, LOCKED, "head (t1);", "patch 10 0 5 -> 200");
    }

    private static void copiesAndMoves() {
        all(1, LOCKED, "", "copy 2 3 true true -> 201");
        all(5, LOCKED, "", "copy 1 3 true true -> 201");
        all(1, LOCKED, "", "copy 1 3 false true -> 201");
        all(5, LOCKED, "head /2(t2);", "copy 1 2 true true -> 204");
        all(6, LOCKED, "head /10(t1);", "copy 2 1 true true -> 204");
        all(2, LOCKED, "", "move 585 3 true -> 201");
        all(11, LOCKED, "head /10(t1);", "move 1 3 true -> 201");
        all(11, LOCKED, "head /10(t1)/2(t2);", "move 1 2 true -> 204");
        all(8, LOCKED, "head /10(t1)/2(t2);", "move 2 1 true -> 204");
        all(30, SIX_LOCKS, "head (t1);", "move 1 2 true -> 201");
    }

    private static void locksAndTheClock() {
        all(1, LOCKED, "", "lock 9 true true 9 -> 200");
        all(2, LOCKED, "head (!e1);", "lock 3 true true 100 -> 201");
        all(1, LOCKED, "head (t2);", "refresh 2 10 -> 200");
        all(0, LOCKED, "head (t2);", "refresh 2 9 -> 200");
        all(1, LOCKED, "head (t1);", "unlock 10 1 -> 204");
        all(0, LOCKED, "", "tick 0 -> 200");
        all(1, LOCKED, "", "tick 8 -> 200");
        all(3, LOCKED, "", "tick 9 -> 200");
        all(3, LOCKED, "", "tick 1000 -> 200");
        all(7, SIX_LOCKS, "", "tick 9 -> 200");
    }
}
