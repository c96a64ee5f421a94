/** Promise 8. */
public final class MoveTest {
    public static void main(String[] args) {
        moves();
        refusals();
        barred();
        Script.end();
    }

    private static void moves() {
        Script.run("with all below it, stamps kept", Texts.BRANCH + """
            patch 585 1 44 -> 200
            move 1 3 false -> 201
            listing -1 -> 6
            kind 1 -> 0
            kind 9 -> 0
            kind 585 -> 0
            kind 3 -> 2
            stamp 3 -> 1
            stamp 25 -> 2
            stamp 201 -> 3
            stamp 1609 -> 4
            stamp 26 -> 5
            body 1609 -> 5
            property 1609 1 -> 44
            writes -> 42
            put 4 1 -> 201
            stamp 4 -> 7
            """);
        Script.run("all properties, over those of another", """
            put 1 5 -> 201
            patch 1 0 7 -> 200
            patch 1 1 8 -> 200
            patch 1 2 9 -> 200
            mkcol 2 -> 201
            patch 2 0 1 -> 200
            patch 2 1 2 -> 200
            patch 2 2 3 -> 200
            move 1 2 true -> 204
            property 2 0 -> 7
            property 2 1 -> 8
            property 2 2 -> 9
            kind 2 -> 1
            body 2 -> 5
            stamp 2 -> 1
            property 1 0 -> -1
            """);
        Script.run("over a branch, over a document", Texts.BRANCH + """
            mkcol 3 -> 201
            put 31 1 -> 201
            move 9 3 true -> 204
            listing -1 -> 6
            kind 31 -> 0
            kind 9 -> 0
            stamp 3 -> 2
            stamp 25 -> 3
            stamp 201 -> 4
            move 2 10 true -> 204
            body 10 -> 7
            stamp 10 -> 6
            kind 2 -> 0
            """);
        Script.run("upwards and within a collection", Texts.BRANCH + """
            move 585 3 false -> 201
            body 3 -> 5
            move 9 11 false -> 201
            kind 89 -> 2
            stamp 89 -> 3
            kind 73 -> 0
            """);
        Script.run("a full tree can still move", Texts.TWELVE + """
            move 7 14 false -> 201
            listing -1 -> 12
            move 1 7 false -> 201
            listing -1 -> 12
            listing 11 -> 62
            move 2 3 true -> 204
            listing -1 -> 11
            """);
        Script.run("locks do not move", Texts.BRANCH + """
            lock 1 true true 9 -> 200
            lock 2 true false 9 -> 200
            writes -> 24
            head (t1)/2(t2)
            move 1 2 true -> 400
            head /1(t1)/2(t2)
            move 1 2 true -> 204
            lockOf 1 -> -1
            covering 1 -1 -> 0
            covering 2 -1 -> 1
            covering 2 0 -> 2
            covering 17 -1 -> 0
            stamp 2 -> 1
            writes -> 47           # five paths left, five written, the lock 1 gone
            """);
    }

    private static void refusals() {
        Script.run("400", """
            put 1 1 -> 201
            move 8 2 true -> 400
            move 1 8 true -> 400
            move -1 2 true -> 400
            move 1 4096 true -> 400
            move MAX MIN true -> 400
            """);
        Script.run("403", Texts.BRANCH + """
            move 0 4 true -> 403
            move 0 0 true -> 403
            move 1 0 true -> 403
            move 1 1 true -> 403
            move 1 9 true -> 403
            move 1 15 true -> 403
            move 585 9 true -> 403
            move 5 5 true -> 403
            """);
        Script.run("404, 409, 412 in this order", Texts.BRANCH + """
            move 5 33 false -> 404
            move 5 1 false -> 404
            move 2 33 false -> 409
            move 1 17 false -> 409
            move 2 1 false -> 412
            move 10 2 false -> 412
            lock 2 true false 9 -> 200
            move 10 2 false -> 412
            move 10 2 true -> 423
            """);
        Script.run("507 for the names alone, after 423", Texts.BRANCH + """
            mkcol 3 -> 201
            move 1 25 false -> 507
            move 9 25 false -> 201
            kind 1609 -> 1
            lock 201 true false 9 -> 200
            move 3 11 false -> 423
            head /201(t1)
            move 3 11 false -> 507
            """);
    }

    private static void barred() {
        Script.run("423 at p", Texts.BRANCH + """
            lock 2 true false 9 -> 200
            move 2 3 false -> 423
            copy 2 3 true false -> 201
            head (t1)
            move 2 4 false -> 201
            lockOf 1 -> -1
            """);
        Script.run("423 at p's parent", Texts.BRANCH + """
            lock 1 true false 9 -> 200
            move 9 3 false -> 423
            head /1(t1)
            move 9 3 false -> 201
            lockOf 1 -> 147461
            """);
        Script.run("423 below p", Texts.BRANCH + """
            lock 585 true false 9 -> 200
            move 1 3 false -> 423
            move 9 3 false -> 423
            move 73 3 false -> 423
            move 10 3 false -> 201
            head /585(t1)
            move 1 4 false -> 201
            """);
        Script.run("423 at q's parent, at q and below q", Texts.BRANCH + """
            lock 73 true false 9 -> 200
            move 2 585 true -> 423
            move 2 73 true -> 423
            move 2 9 true -> 423
            move 2 74 true -> 201
            move 74 2 true -> 201
            head /73(t1)
            move 2 585 true -> 204
            body 585 -> 7
            """);
        Script.run("423 at q alone, its parent being opened", Texts.BRANCH + """
            lock 9 false true 9 -> 200
            lock 9 false false 9 -> 200
            head /9(t2)
            move 2 74 true -> 423
            head /9(t1)
            move 2 74 true -> 201
            """);
        Script.run("423 at q without a resource", Texts.BRANCH + """
            lock 9 true true 9 -> 200
            move 2 74 true -> 423
            head /9(t1)
            move 2 74 true -> 201
            """);
    }
}
