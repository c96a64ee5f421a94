/** Promise 4. */
public final class PutTest {
    public static void main(String[] args) {
        Script.run("new and old documents", """
            put 1 0 -> 201
            kind 1 -> 1
            body 1 -> 0
            stamp 1 -> 1
            patch 1 2 77 -> 200
            put 1 999999 -> 204
            body 1 -> 999999
            stamp 1 -> 2
            property 1 2 -> 77
            put 1 999999 -> 204
            stamp 1 -> 3
            mkcol 7 -> 201
            mkcol 63 -> 201
            mkcol 511 -> 201
            put 4095 5 -> 201
            body 4095 -> 5
            stamp 4095 -> 7
            """);
        Script.run("its properties stay, all of them", """
            put 1 5 -> 201
            patch 1 0 7 -> 200
            patch 1 1 8 -> 200
            patch 1 2 9 -> 200
            put 1 6 -> 204
            property 1 0 -> 7
            property 1 1 -> 8
            property 1 2 -> 9
            """);
        Script.run("400", """
            put -1 1 -> 400
            put 8 1 -> 400
            put 64 1 -> 400
            put 72 1 -> 400
            put 4096 1 -> 400
            put MIN 1 -> 400
            put MAX 1 -> 400
            put 1 -1 -> 400
            put 1 1000000 -> 400
            put 1 MIN -> 400
            put 1 MAX -> 400
            put 0 1000000 -> 400
            listing -1 -> 0
            writes -> 0
            """);
        Script.run("405 before 423, and the root", """
            put 0 1 -> 405
            mkcol 1 -> 201
            put 1 1 -> 405
            lock 1 true false 9 -> 200
            put 1 1 -> 405
            kind 1 -> 2
            """);
        Script.run("409", """
            put 9 1 -> 409
            put 1 1 -> 201
            put 9 1 -> 409
            put 73 1 -> 409
            lock 0 true true 9 -> 200
            put 9 1 -> 409
            """);
        Script.run("423 at the path", """
            put 1 1 -> 201
            lock 1 true false 9 -> 200
            put 1 2 -> 423
            body 1 -> 1
            stamp 1 -> 1
            head (t1)
            put 1 2 -> 204
            """);
        Script.run("423 at the parent, for a new document alone", """
            mkcol 1 -> 201
            put 9 1 -> 201
            lock 1 true false 9 -> 200
            put 9 2 -> 204
            put 10 1 -> 423
            head /1(t1)
            put 10 1 -> 201
            lock 0 true false 9 -> 200
            put 2 1 -> 423
            """);
        Script.run("423 by a deep lock, at a path without a resource", """
            lock 0 false true 9 -> 200
            put 1 1 -> 423
            head (t1)
            put 1 1 -> 201
            put 1 2 -> 423
            """);
        Script.run("423 at the path alone, its parent being opened", """
            mkcol 1 -> 201
            lock 0 false true 9 -> 200
            lock 1 false false 9 -> 200
            head /1(t2)
            put 9 1 -> 423
            head /1(t1)
            put 9 1 -> 201
            """);
        Script.run("nothing of what stood there before comes back", """
            put 1 5 -> 201
            patch 1 0 7 -> 200
            patch 1 1 8 -> 200
            patch 1 2 9 -> 200
            delete 1 -> 204
            put 1 6 -> 201
            property 1 0 -> 0
            property 1 1 -> 0
            property 1 2 -> 0
            stamp 1 -> 2
            """);
        Script.run("507 for the 13th, after 423", Texts.TWELVE + """
            put 14 1 -> 507
            put 13 9 -> 204
            put 14 1 -> 507
            put 8 1 -> 400
            put 17 1 -> 409
            lock 1 true false 9 -> 200
            put 14 1 -> 423
            delete 7 -> 204
            head /1(t1)
            put 14 1 -> 201
            """);
        Script.end();
    }
}
