/** Promise 2, and when the header is emptied. */
public final class HeadTest {
    private static final String NAMED = "()/te!0123456789";

    public static void main(String[] args) {
        for (int c = 0; c <= 0xFFFF; c++) {
            LockedTree tree = new LockedTree();
            boolean named = NAMED.indexOf((char) c) >= 0;
            Script.due("head of character " + c, tree.head((char) c) ? 1 : 0, named ? 1 : 0);
            Script.due("tick after character " + c, tree.tick(0), named ? 400 : 200);
        }
        refusedCharacterChangesNothing();
        twentyFour();
        Script.run("the header belongs to one request, whatever its answer", """
            head (
            tick 0 -> 400
            tick 0 -> 200
            head (e1)
            tick 0 -> 412
            tick 0 -> 200
            head (e1)
            tick 1001 -> 400
            tick 0 -> 200
            head (e0)
            tick 1 -> 200
            head )
            tick 0 -> 400
            head (e0)
            fail 0 -> 1
            tick 1 -> 0
            put 1 1 -> 201
            head (e1)
            put 1 2 -> 204
            put 1 3 -> 204
            """);
        emptyAfterEachAnswer();
        Script.run("what is no request leaves the header", """
            head (e
            fail 5 -> 1
            kind 0 -> 2
            body 0 -> 0
            stamp 0 -> 0
            property 0 0 -> 0
            covering 0 -1 -> 0
            lockOf 1 -> -1
            multi -1 -> 0
            writes -> 0
            listing -1 -> 0
            head 9)
            tick 0 -> 412
            """);
        Script.end();
    }

    /** "empty after it, whatever its answer": there is room for 24 again, and the old one is gone. */
    private static void emptyAfterEachAnswer() {
        String setup = "mkcol 1 -> 201; put 9 1 -> 201; put 10 1 -> 201; put 11 1 -> 201; lock 9 true false 9 -> 200\n";
        for (String request : new String[] {"head (e1); patch 1 0 1 -> 200", "head (!e1); put 2 1 -> 201",
                "head (e4); put 11 5 -> 204", "head (e1); delete 1 -> 207", "head (e1; delete 1 -> 400",
                "head (!e1); delete 0 -> 403", "head (!e1); delete 2 -> 404", "head (e1); put 1 1 -> 405",
                "head (!e1); put 17 1 -> 409", "head (e2); patch 1 0 1 -> 412", "head (e2); patch 9 0 1 -> 423",
                "fail 1 -> 1; head (e3); put 10 2 -> 0", "fail 2 -> 1; head (e3); put 10 2 -> 0"}) {
            LockedTree tree = Script.after(request, setup + request);
            for (int i = 1; i <= 25; i++) {
                Script.due(request + ", then character " + i, tree.head('(') ? 1 : 0, i <= 24 ? 1 : 0);
            }
            Script.run(request, setup + request + "; tick 0 -> 200");
        }
        Script.run("507", Texts.TWELVE + "head (!e1); put 14 1 -> 507; tick 0 -> 200");
    }

    private static void refusedCharacterChangesNothing() {
        LockedTree tree = new LockedTree();
        for (char c : "(e0)".toCharArray()) {
            Script.due("head between", tree.head(' ') ? 1 : 0, 0);
            Script.due("head " + c, tree.head(c) ? 1 : 0, 1);
            Script.due("head after", tree.head('x') ? 1 : 0, 0);
        }
        Script.due("tick with a whole header", tree.tick(0), 200);
    }

    /** Every number of characters up to the limit and beyond it. */
    private static void twentyFour() {
        for (int length = 0; length <= 30; length++) {
            LockedTree tree = new LockedTree();
            for (int i = 1; i <= length; i++) {
                Script.due("head of number " + i, tree.head("(e0)".charAt((i - 1) % 4)) ? 1 : 0, i <= 24 ? 1 : 0);
            }
            int kept = Math.min(length, 24);
            Script.due("tick with " + length + " characters", tree.tick(0), kept % 4 == 0 ? 200 : 400);
        }
        LockedTree tree = new LockedTree();
        String whole = "(!e1!e1!e1e0!e1!e1e0e00)";
        Script.due("length of the header", whole.length(), 24);
        for (char c : whole.toCharArray()) {
            Script.due("head " + c, tree.head(c) ? 1 : 0, 1);
        }
        for (char c : NAMED.toCharArray()) {
            Script.due("head 25th " + c, tree.head(c) ? 1 : 0, 0);
        }
        Script.due("tick with 24 characters", tree.tick(0), 200);
        Script.due("head after the request", tree.head('(') ? 1 : 0, 1);
        for (int i = 1; i < 24; i++) {
            Script.due("head of many", tree.head('(') ? 1 : 0, 1);
        }
        Script.due("head of one too many", tree.head('(') ? 1 : 0, 0);
    }
}
