/** Promises 14 kind, 15 body, 16 stamp, 17 property and 22 listing. */
public final class ResourceQueriesTest {
    private static final String SOME = """
        mkcol 7 -> 201
        put 1 999999 -> 201
        put 57 4 -> 201
        patch 57 0 10 -> 200
        patch 57 2 12 -> 200
        """;

    public static void main(String[] args) {
        Script.run("kind", SOME + """
            kind 0 -> 2
            kind 7 -> 2
            kind 1 -> 1
            kind 57 -> 1
            kind 2 -> 0
            kind 8 -> 0
            kind -1 -> 0
            kind 4096 -> 0
            kind MIN -> 0
            kind MAX -> 0
            """);
        Script.run("body", SOME + """
            body 0 -> 0
            body 7 -> 0
            body 1 -> 999999
            body 57 -> 4
            body 2 -> -1
            body 8 -> -1
            body -1 -> -1
            body 4096 -> -1
            body MIN -> -1
            body MAX -> -1
            """);
        Script.run("stamp", SOME + """
            stamp 0 -> 0
            stamp 7 -> 1
            stamp 1 -> 2
            stamp 57 -> 3
            stamp 2 -> -1
            stamp 8 -> -1
            stamp -1 -> -1
            stamp 4096 -> -1
            stamp MIN -> -1
            stamp MAX -> -1
            """);
        Script.run("property", SOME + """
            property 57 0 -> 10
            property 57 1 -> 0
            property 57 2 -> 12
            property 57 3 -> -1
            property 57 -1 -> -1
            property 57 MAX -> -1
            property 57 MIN -> -1
            property 0 0 -> 0
            property 2 0 -> -1
            property 8 0 -> -1
            property -1 0 -> -1
            property 4096 0 -> -1
            """);
        Script.run("listing", SOME + """
            listing -1 -> 3
            listing 0 -> 1
            listing 1 -> 7
            listing 2 -> 57
            listing 3 -> -1
            listing 12 -> -1
            listing 13 -> -1
            listing -2 -> -1
            listing MAX -> -1
            listing MIN -> -1
            put 6 1 -> 201
            listing 1 -> 6
            listing 2 -> 7
            delete 7 -> 204
            listing -1 -> 2
            listing 1 -> 6
            listing 2 -> -1
            """);
        Script.run("listing of twelve", Texts.TWELVE + """
            listing -1 -> 12
            listing 0 -> 1
            listing 6 -> 7
            listing 7 -> 9
            listing 11 -> 13
            listing 12 -> -1
            """);
        Script.end();
    }
}
