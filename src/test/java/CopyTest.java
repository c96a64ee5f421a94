/** Promise 7. */
public final class CopyTest {
    public static void main(String[] args) {
        copies();
        refusals();
        overwriting();
        barred();
        room();
        Script.end();
    }

    private static void copies() {
        Script.run("deep, with new stamps in the order of the paths", Texts.BRANCH + """
            patch 1 0 11 -> 200
            patch 585 2 12 -> 200
            copy 1 3 true false -> 201
            listing -1 -> 11
            kind 3 -> 2
            kind 25 -> 2
            kind 26 -> 1
            kind 201 -> 2
            kind 1609 -> 1
            body 26 -> 6
            body 1609 -> 5
            property 3 0 -> 11
            property 1609 2 -> 12
            stamp 3 -> 7
            stamp 25 -> 8
            stamp 26 -> 9
            stamp 201 -> 10
            stamp 1609 -> 11
            stamp 1 -> 1
            stamp 585 -> 4
            body 585 -> 5
            writes -> 35
            """);
        Script.run("alone", Texts.BRANCH + """
            patch 1 1 9 -> 200
            copy 1 3 false false -> 201
            kind 3 -> 2
            property 3 1 -> 9
            stamp 3 -> 7
            listing -1 -> 7
            kind 25 -> 0
            """);
        Script.run("all properties, over those of another", """
            put 1 5 -> 201
            patch 1 0 7 -> 200
            patch 1 1 8 -> 200
            patch 1 2 9 -> 200
            mkcol 2 -> 201
            patch 2 0 1 -> 200
            patch 2 1 2 -> 200
            patch 2 2 3 -> 200
            copy 1 2 true true -> 204
            property 2 0 -> 7
            property 2 1 -> 8
            property 2 2 -> 9
            kind 2 -> 1
            body 2 -> 5
            property 1 0 -> 7
            property 1 1 -> 8
            property 1 2 -> 9
            """);
        Script.run("from below to above and into a neighbour", Texts.BRANCH + """
            copy 585 3 true false -> 201
            body 3 -> 5
            copy 2 11 false false -> 201
            body 11 -> 7
            copy 9 12 true false -> 201
            kind 97 -> 2
            kind 777 -> 1
            kind 778 -> 0
            """);
        Script.run("a document, deep or not, is the same", """
            put 1 4 -> 201
            copy 1 2 true false -> 201
            copy 1 3 false false -> 201
            stamp 2 -> 2
            stamp 3 -> 3
            """);
    }

    private static void refusals() {
        Script.run("400", """
            put 1 1 -> 201
            copy -1 2 true true -> 400
            copy 8 2 true true -> 400
            copy 1 8 true true -> 400
            copy 1 4096 true true -> 400
            copy 4096 1 true true -> 400
            copy 1 -1 true true -> 400
            copy MIN MAX true true -> 400
            """);
        Script.run("403 before 404", Texts.BRANCH + """
            copy 1 0 true true -> 403
            copy 0 1 true true -> 403
            copy 0 0 true true -> 403
            copy 1 1 true true -> 403
            copy 1 11 true true -> 403
            copy 1 585 true true -> 403
            copy 585 1 true true -> 403
            copy 10 1 false true -> 403
            copy 5 5 true true -> 403
            copy 5 41 true true -> 403
            copy 41 5 true true -> 403
            copy 5 0 true true -> 403
            """);
        Script.run("404 before 409, 409 before 412", Texts.BRANCH + """
            copy 5 6 true true -> 404
            copy 5 33 true true -> 404
            copy 2 33 true true -> 409
            copy 1 17 true true -> 409
            copy 1 17 true false -> 409
            copy 1 2 true false -> 412
            copy 2 10 true false -> 412
            """);
        Script.run("the header's 412 comes before 403", """
            head (t1)
            copy 0 0 true true -> 412
            head (
            copy 0 0 true true -> 400
            """);
        Script.run("412 before 423", Texts.BRANCH + """
            lock 0 true true 9 -> 200
            copy 1 2 true false -> 412
            copy 1 2 true true -> 423
            """);
    }

    private static void overwriting() {
        Script.run("a document by a branch", Texts.BRANCH + """
            patch 2 0 5 -> 200
            copy 9 2 true true -> 204
            kind 2 -> 2
            body 2 -> 0
            property 2 0 -> 0
            kind 17 -> 2
            body 137 -> 5
            listing -1 -> 8
            writes -> 28
            """);
        Script.run("a branch by a document", Texts.BRANCH + """
            copy 2 1 true true -> 204
            listing -1 -> 2
            kind 1 -> 1
            body 1 -> 7
            stamp 1 -> 7
            writes -> 29
            """);
        Script.run("nothing of the old one is left below", Texts.BRANCH + """
            mkcol 3 -> 201
            put 31 1 -> 201
            copy 1 3 true true -> 204
            kind 31 -> 0
            kind 25 -> 2
            """);
        Script.run("locks stay where there is a resource again", """
            mkcol 1 -> 201
            put 9 1 -> 201
            mkcol 2 -> 201
            put 17 1 -> 201
            put 18 1 -> 201
            lock 2 true false 9 -> 200
            lock 17 true false 9 -> 200
            lock 18 true false 9 -> 200
            writes -> 24
            head /2(t1)/17(t2t3)(t2)(t3)
            copy 1 2 true true -> 204
            covering 2 0 -> 1
            covering 17 0 -> 2
            covering 18 -1 -> 0
            lockOf 3 -> -1
            writes -> 33
            """);
    }

    private static void barred() {
        Script.run("423 at q's parent, and when q's own lock is submitted too", Texts.BRANCH + """
            mkcol 3 -> 201
            put 25 1 -> 201
            lock 3 true false 9 -> 200
            lock 25 true false 9 -> 200
            copy 2 25 true true -> 423
            head /25(t2)
            copy 2 25 true true -> 423
            head /3(t1)
            copy 2 25 true true -> 423
            copy 2 26 true true -> 423
            head /3(t1)/25(t2)
            copy 2 25 true true -> 204
            head /3(t1)
            copy 2 26 true true -> 201
            """);
        Script.run("423 below q, where there is a resource", Texts.BRANCH + """
            lock 585 true false 9 -> 200
            copy 2 1 true true -> 423
            copy 2 9 true true -> 423
            copy 2 585 true true -> 423
            kind 585 -> 1
            copy 2 10 true true -> 204
            head /585(t1)
            copy 2 9 true true -> 204
            lockOf 1 -> -1
            """);
        Script.run("423 below q for a copy alone, too, since all there would go", Texts.BRANCH + """
            lock 585 true false 9 -> 200
            lock 1 false false 9 -> 200
            head /1(t2)
            copy 2 1 false true -> 423
            head /585(t1)/1(t2)
            copy 2 1 false true -> 204
            listing -1 -> 2
            lockOf 1 -> -1
            lockOf 2 -> 147460
            """);
        Script.run("423 at q alone, its parent being opened", Texts.BRANCH + """
            lock 0 false true 9 -> 200
            lock 1 false false 9 -> 200
            head /1(t2)
            copy 2 11 true true -> 423
            head /1(t1)
            copy 2 11 true true -> 201
            """);
        Script.run("a barred source, its barred parent and what is below it bar nothing", Texts.BRANCH + """
            lock 1 true true 9 -> 200
            copy 9 3 true true -> 201
            copy 585 4 true true -> 201
            """);
        Script.run("423 at q without a resource, by a deep lock", Texts.BRANCH + """
            lock 1 true true 9 -> 200
            copy 2 11 true true -> 423
            head /1(t1)
            copy 2 11 true true -> 201
            """);
        Script.run("locks at p bar nothing and are not copied", Texts.BRANCH + """
            lock 1 true true 9 -> 200
            copy 1 3 true true -> 201
            covering 3 -1 -> 0
            covering 25 -1 -> 0
            """);
    }

    private static void room() {
        Script.run("507 for the names", Texts.BRANCH + """
            mkcol 3 -> 201
            mkcol 25 -> 201
            copy 1 26 true true -> 507       # 585 would have five names
            copy 1 26 false true -> 201
            copy 9 27 true true -> 201
            kind 1737 -> 1
            delete 26 -> 204
            copy 9 201 true true -> 507
            copy 2 201 true true -> 201
            """);
        Script.run("507 for the names of what has just been made", """
            mkcol 2 -> 201
            mkcol 1 -> 201
            mkcol 9 -> 201
            mkcol 73 -> 201
            mkcol 585 -> 201
            copy 1 17 true true -> 507
            delete 585 -> 204
            copy 1 17 true true -> 201
            """);
        Script.run("507 for the number", Texts.TWELVE + """
            copy 2 14 true true -> 507
            copy 2 3 true true -> 204
            copy 1 2 true true -> 507
            copy 1 2 false true -> 204
            delete 7 -> 204
            copy 3 14 true true -> 201
            copy 3 15 true true -> 507
            """);
        Script.run("exactly twelve, and those at q removed first", """
            mkcol 1 -> 201
            put 9 1 -> 201
            put 10 1 -> 201
            put 11 1 -> 201
            put 12 1 -> 201
            put 13 1 -> 201
            copy 1 2 true true -> 201
            listing -1 -> 12
            copy 1 3 false false -> 507
            copy 1 2 true true -> 204
            listing -1 -> 12
            delete 9 -> 204
            copy 1 2 true true -> 204
            listing -1 -> 10
            """);
        Script.run("423 before 507", Texts.TWELVE + """
            lock 1 true false 9 -> 200
            copy 2 14 true true -> 423
            head /1(t1)
            copy 2 14 true true -> 507
            """);
        Script.run("names are refused though deep is false only below", Texts.BRANCH + """
            mkcol 3 -> 201
            mkcol 25 -> 201
            mkcol 201 -> 201
            copy 73 1609 true false -> 507
            copy 73 1609 false false -> 201
            kind 1609 -> 2
            put 1 1 -> 405
            """);
    }
}
