/**
 * The limits of the tree: 12 resources beside the root, 6 locks, four names in a path. Each is met
 * from below, exactly, and from above, by every request that can make a resource or a lock.
 */
public final class RoomTest {
    public static void main(String[] args) {
        for (int count = 0; count <= 12; count++) {
            oneMoreResource(count);
        }
        for (int count = 0; count <= 6; count++) {
            oneMoreLock(count);
        }
        bothLimits();
        copiesByNumber();
        namesOfCopies();
        roomComesBack();
        Script.end();
    }

    /** The members 1 .. 5 of the root as documents, then the collection 7 with the members 57 .. */
    private static String resources(int count) {
        StringBuilder text = new StringBuilder();
        for (int i = 1; i <= count; i++) {
            String call = i <= 5 ? "put " + i + " 1" : i == 6 ? "mkcol 7" : "put " + (56 + i - 6) + " 1";
            text.append(call).append(" -> 201\n");
        }
        return text.append("listing -1 -> ").append(count).append('\n').toString();
    }

    /** "507: a new resource would be the 13th", "it would be the 13th". */
    private static void oneMoreResource(int count) {
        String setup = resources(count);
        boolean room = count < 12;
        String after = "; listing -1 -> " + (room ? count + 1 : count) + "; kind 6 -> ";
        Script.run("put after " + count, setup + "put 6 1 -> " + (room ? 201 : 507) + after + (room ? 1 : 0));
        Script.run("mkcol after " + count, setup + "mkcol 6 -> " + (room ? 201 : 507) + after + (room ? 2 : 0));
        Script.run("lock after " + count, setup + "lock 6 true true 9 -> " + (room ? 201 : 507) + after
            + (room ? 1 : 0) + "; lockOf 1 -> " + (room ? 9 * 16384 + 24 + 3 : -1));
        if (count > 0) {
            Script.run("copy after " + count, setup + "copy 1 6 true true -> " + (room ? 201 : 507) + after
                + (room ? 1 : 0));
            Script.run("what is not new needs no room, after " + count, setup
                + "put 1 2 -> 204; lock 1 true true 9 -> 200; head (t1); move 1 6 true -> 201;"
                + "patch 6 0 1 -> 200; listing -1 -> " + count);
        }
        if (count > 1) {
            Script.run("a copy over another needs no room, after " + count, setup
                + "copy 1 2 true true -> 204; listing -1 -> " + count);
        }
    }

    /** "507: it would be the 7th lock". */
    private static void oneMoreLock(int count) {
        String setup = "put 1 1 -> 201\n" + "lock 1 false false 9 -> 200\n".repeat(count);
        boolean room = count < 6;
        Script.run("a lock after " + count, setup + "lock 1 false true 9 -> " + (room ? 200 : 507)
            + "; covering 1 -1 -> " + Math.min(count + 1, 6)
            + "; lockOf " + (count + 1) + " -> " + (room ? 9 * 16384 + 4 + 2 : -1));
        Script.run("a lock elsewhere after " + count, setup + "lock 0 true false 9 -> " + (room ? 200 : 507));
        Script.run("a lock with a new document after " + count, setup + "lock 2 true false 9 -> "
            + (room ? 201 : 507) + "; kind 2 -> " + (room ? 1 : 0) + "; listing -1 -> " + (room ? 2 : 1));
    }

    private static void bothLimits() {
        Script.run("the 6th lock makes the 12th resource", resources(11)
            + "lock 1 false false 9 -> 200\n".repeat(5) + "lock 6 true true 9 -> 201; lockOf 6 -> 147483;"
            + "lock 2 true true 9 -> 507; put 63 1 -> 507");
        Script.run("a 6th lock is there for a 12th resource, not for a 13th", resources(12)
            + "lock 1 false false 9 -> 200\n".repeat(5) + "lock 6 true true 9 -> 507; lock 2 true true 9 -> 200");
        Script.run("a 12th resource is there for a 6th lock, not for a 7th", resources(11)
            + "lock 1 false false 9 -> 200\n".repeat(6) + "lock 6 true true 9 -> 507; put 6 1 -> 201");
    }

    /**
     * "507: .. there would be more than 12 resources (without the root), those at q and below it
     * having been removed": all trees of a source 1, a target 2 and others.
     */
    private static void copiesByNumber() {
        for (int source = 1; source <= 8; source++) {
            for (int target = 0; target <= 8; target++) {
                for (int others = 0; others <= 5 && source + target + others <= 12; others++) {
                    String setup = branch(1, source) + branch(2, target) + documents(3, others);
                    String title = "copy of " + source + " over " + target + " beside " + others;
                    int status = target == 0 ? 201 : 204;
                    int deep = source + source + others;
                    int alone = source + 1 + others;
                    int before = source + target + others;
                    Script.run(title, setup + "copy 1 2 true true -> " + (deep > 12 ? 507 : status)
                        + "; listing -1 -> " + (deep > 12 ? before : deep));
                    Script.run(title + ", alone", setup + "copy 1 2 false true -> " + (alone > 12 ? 507 : status)
                        + "; listing -1 -> " + (alone > 12 ? before : alone));
                    Script.run(title + ", moved", setup + "move 1 2 true -> " + status
                        + "; listing -1 -> " + (source + others));
                }
            }
        }
    }

    private static String branch(int top, int count) {
        if (count == 0) {
            return "";
        }
        return "mkcol " + top + " -> 201\n" + documents(top * 8 + 1, count - 1);
    }

    private static String documents(int first, int count) {
        StringBuilder text = new StringBuilder();
        for (int i = 0; i < count; i++) {
            text.append("put ").append(first + i).append(" 1 -> 201\n");
        }
        return text.toString();
    }

    /**
     * "507: a copy would have more than four names": a chain of 1 .. 4 collections, copied from
     * each of its levels to each level of another chain.
     */
    private static void namesOfCopies() {
        int[] chain = {0, 1, 9, 73, 585};
        int[] places = {0, 3, 19, 147, 1171};
        String target = "mkcol 2 -> 201; mkcol 18 -> 201; mkcol 146 -> 201\n";
        for (int length = 1; length <= 4; length++) {
            StringBuilder setup = new StringBuilder(target);
            for (int i = 1; i <= length; i++) {
                setup.append("mkcol ").append(chain[i]).append(" -> 201\n");
            }
            for (int from = 1; from <= length; from++) {
                for (int to = 1; to <= 4; to++) {
                    int names = to + length - from;
                    String pair = chain[from] + " " + places[to];
                    String due = names > 4 ? "507" : "201";
                    Script.run("names of a deep copy", setup + "copy " + pair + " true true -> " + due);
                    Script.run("names of a copy alone", setup + "copy " + pair + " false true -> 201");
                    Script.run("names of a move", setup + "move " + pair + " true -> " + due);
                }
            }
        }
    }

    private static void roomComesBack() {
        Script.run("after a deletion", resources(12) + "delete 5 -> 204; put 6 1 -> 201; put 5 1 -> 507");
        Script.run("after a copy over a branch", resources(12) + "copy 1 7 true true -> 204; listing -1 -> 6;"
            + "put 6 1 -> 201; listing -1 -> 7");
        Script.run("after a move over another", resources(12) + "move 1 2 true -> 204; put 1 1 -> 201; put 6 1 -> 507");
        String six = "lock 0 false false 9 -> 200\n".repeat(5) + "lock 0 false false 8 -> 200\n";
        Script.run("after an unlock", six + "unlock 0 3 -> 204; lock 0 false false 9 -> 200;"
            + "lockOf 7 -> 147456; lock 0 false false 9 -> 507");
        Script.run("after a tick", six + "tick 7 -> 200; lock 0 false false 9 -> 507; tick 1 -> 200;"
            + "lock 0 false false 9 -> 200; lock 0 false false 9 -> 507");
        Script.run("after the root of locks is gone", "put 1 1 -> 201\n" + "lock 1 false false 9 -> 200\n".repeat(6)
            + "lock 0 true false 9 -> 507; head (t1); delete 1 -> 204; lock 0 true false 9 -> 200; lockOf 7 -> 147457");
    }
}
