/** Promise 20. */
public final class MultiTest {
    private static final String STAYING = """
        mkcol 1 -> 201
        put 10 1 -> 201
        put 9 1 -> 201
        put 11 1 -> 201
        lock 10 true false 9 -> 200
        lock 9 true false 9 -> 200
        delete 1 -> 207
        """;

    public static void main(String[] args) {
        Script.run("the list", STAYING + """
            multi -1 -> 2
            multi 0 -> 9
            multi 1 -> 10
            multi 2 -> -1
            multi -2 -> -1
            multi MAX -> -1
            multi MIN -> -1
            """);
        Script.run("what is no request leaves it", STAYING + """
            head (
            fail 3 -> 1
            listing -1 -> 3
            multi -1 -> 2
            multi 0 -> 9
            """);
        for (String request : new String[] {"put 2 1 -> 201", "put 8 1 -> 400", "mkcol 2 -> 201",
                "delete 2 -> 404", "delete 9 -> 423", "copy 1 2 true true -> 201",
                "move 0 2 true -> 403", "patch 1 0 0 -> 200", "lock 1 true true 1 -> 423",
                "refresh 1 1 -> 412", "unlock 1 1 -> 409", "tick 0 -> 200", "tick -1 -> 400"}) {
            Script.run("another request ends it", STAYING + request + """

                multi -1 -> 0
                multi 0 -> -1
                """);
        }
        Script.run("a second list takes the place of the first", STAYING + """
            unlock 10 1 -> 204
            delete 1 -> 207
            multi -1 -> 1
            multi 0 -> 9
            multi 1 -> -1
            """);
        Script.run("a delete that answered 0 did not answer 207", STAYING + """
            put 12 1 -> 201
            fail 2 -> 1
            delete 1 -> 0
            kind 12 -> 0
            multi -1 -> 0
            multi 0 -> -1
            put 12 1 -> 201
            fail 1 -> 1
            delete 1 -> 0
            kind 12 -> 1
            multi -1 -> 0
            """);
        Script.run("eleven can stay", Texts.ELEVEN_BELOW + """
            lock 9 true true 9 -> 200
            lock 10 true true 9 -> 200
            lock 11 true true 9 -> 200
            lock 12 true true 9 -> 200
            writes -> 48
            delete 1 -> 207
            multi -1 -> 11
            multi 0 -> 9
            multi 3 -> 12
            multi 10 -> 79
            multi 11 -> -1
            writes -> 48
            """);
        Script.end();
    }
}
