/** Promise 5. */
public final class MkcolTest {
    public static void main(String[] args) {
        Script.run("a new collection", """
            mkcol 1 -> 201
            kind 1 -> 2
            body 1 -> 0
            stamp 1 -> 1
            property 1 0 -> 0
            mkcol 9 -> 201
            mkcol 73 -> 201
            mkcol 585 -> 201
            stamp 585 -> 4
            kind 585 -> 2
            writes -> 12
            """);
        Script.run("nothing of what stood there before comes back", """
            put 1 5 -> 201
            patch 1 0 7 -> 200
            patch 1 1 8 -> 200
            patch 1 2 9 -> 200
            delete 1 -> 204
            mkcol 1 -> 201
            body 1 -> 0
            property 1 0 -> 0
            property 1 1 -> 0
            property 1 2 -> 0
            stamp 1 -> 2
            """);
        Script.run("400", """
            mkcol -1 -> 400
            mkcol 8 -> 400
            mkcol 520 -> 400
            mkcol 4096 -> 400
            mkcol 4681 -> 400
            mkcol MIN -> 400
            mkcol MAX -> 400
            """);
        Script.run("405 before 423", """
            mkcol 0 -> 405
            put 1 5 -> 201
            mkcol 1 -> 405
            mkcol 2 -> 201
            mkcol 2 -> 405
            lock 0 true true 9 -> 200
            mkcol 2 -> 405
            """);
        Script.run("409 before 423", """
            mkcol 9 -> 409
            put 1 5 -> 201
            mkcol 9 -> 409
            lock 0 true true 9 -> 200
            mkcol 9 -> 409
            mkcol 73 -> 409
            """);
        Script.run("423 at the parent", """
            mkcol 1 -> 201
            lock 1 true false 9 -> 200
            mkcol 9 -> 423
            head /1(t1)
            mkcol 9 -> 201
            mkcol 73 -> 201
            """);
        Script.run("423 by a deep lock", """
            mkcol 1 -> 201
            lock 0 false true 9 -> 200
            mkcol 9 -> 423
            mkcol 2 -> 423
            head (t1)
            mkcol 9 -> 201
            """);
        Script.run("423 at the path and at its parent are two", """
            mkcol 1 -> 201
            lock 0 false true 9 -> 200
            lock 1 false false 9 -> 200
            mkcol 9 -> 423
            head /1(t2)
            mkcol 9 -> 423         # 1 is free by its own lock, 9 is barred by the root's
            head /1(t1)
            mkcol 9 -> 201
            """);
        Script.run("507 after 423", Texts.TWELVE + """
            mkcol 14 -> 507
            mkcol 13 -> 405
            lock 1 true false 9 -> 200
            mkcol 14 -> 423
            head /1(t1)
            mkcol 14 -> 507
            delete 2 -> 204
            head /1(t1)
            mkcol 14 -> 201
            """);
        Script.end();
    }
}
