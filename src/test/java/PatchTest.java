/** Promise 9. */
public final class PatchTest {
    public static void main(String[] args) {
        Script.run("sets one property, and no stamp", """
            put 1 5 -> 201
            patch 1 0 1 -> 200
            patch 1 1 999 -> 200
            patch 1 2 3 -> 200
            property 1 0 -> 1
            property 1 1 -> 999
            property 1 2 -> 3
            patch 1 1 0 -> 200
            property 1 1 -> 0
            property 1 0 -> 1
            stamp 1 -> 1
            body 1 -> 5
            writes -> 15
            patch 1 1 0 -> 200
            writes -> 15
            """);
        Script.run("collections and the root have properties too", """
            mkcol 1 -> 201
            patch 1 2 8 -> 200
            property 1 2 -> 8
            patch 0 1 7 -> 200
            property 0 1 -> 7
            property 0 0 -> 0
            stamp 0 -> 0
            writes -> 9
            tick 1 -> 200
            property 0 1 -> 7
            property 1 2 -> 8
            """);
        Script.run("400", """
            put 1 5 -> 201
            patch 8 0 1 -> 400
            patch -1 0 1 -> 400
            patch 4096 0 1 -> 400
            patch 1 -1 1 -> 400
            patch 1 3 1 -> 400
            patch 1 0 -1 -> 400
            patch 1 0 1000 -> 400
            patch 1 MAX 1 -> 400
            patch 1 0 MIN -> 400
            patch 2 3 1 -> 400
            property 1 0 -> 0
            """);
        Script.run("404 and 423", """
            patch 1 0 1 -> 404
            put 1 5 -> 201
            lock 1 true false 9 -> 200
            patch 1 0 1 -> 423
            property 1 0 -> 0
            head (t1)
            patch 1 0 1 -> 200
            lock 0 false false 9 -> 200
            patch 0 0 1 -> 423
            patch 9 0 1 -> 404
            """);
        Script.run("a barred parent bars nothing", """
            mkcol 1 -> 201
            put 9 1 -> 201
            lock 1 true false 9 -> 200
            patch 9 0 1 -> 200
            """);
        Script.end();
    }
}
