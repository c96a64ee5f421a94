/** Beginnings that several tests share. */
final class Texts {
    /** Twelve resources: the members 1 .. 7 of the root and the members 9 .. 13 of 1. */
    static final String TWELVE = """
        mkcol 1 -> 201
        put 2 0 -> 201
        put 3 0 -> 201
        put 4 0 -> 201
        put 5 0 -> 201
        put 6 0 -> 201
        put 7 0 -> 201
        put 9 0 -> 201
        put 10 0 -> 201
        put 11 0 -> 201
        put 12 0 -> 201
        put 13 0 -> 201
        """;

    /** The collections 1, 9 and 73, the documents 585, 10 and 2; stamps 1 to 6 in this order. */
    static final String BRANCH = """
        mkcol 1 -> 201
        mkcol 9 -> 201
        mkcol 73 -> 201
        put 585 5 -> 201
        put 10 6 -> 201
        put 2 7 -> 201
        """;

    /** Twelve resources: the collection 1 with eleven below it, of which 9 is a collection, too. */
    static final String ELEVEN_BELOW = """
        mkcol 1 -> 201
        mkcol 9 -> 201
        put 73 1 -> 201
        put 74 1 -> 201
        put 75 1 -> 201
        put 76 1 -> 201
        put 77 1 -> 201
        put 78 1 -> 201
        put 79 1 -> 201
        put 10 1 -> 201
        put 11 1 -> 201
        put 12 1 -> 201
        """;

    private Texts() {
    }
}
