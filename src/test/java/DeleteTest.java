/** Promise 6. */
public final class DeleteTest {
    public static void main(String[] args) {
        Script.run("a resource with all below it", Texts.BRANCH + """
            writes -> 18
            delete 9 -> 204
            listing -1 -> 3
            kind 1 -> 2
            kind 9 -> 0
            kind 73 -> 0
            kind 585 -> 0
            kind 10 -> 1
            kind 2 -> 1
            writes -> 25
            delete 1 -> 204
            listing -1 -> 1
            listing 0 -> 2
            """);
        Script.run("a path that begins with the same number is not below", """
            put 1 1 -> 201
            mkcol 2 -> 201
            put 17 1 -> 201
            delete 1 -> 204
            kind 17 -> 1
            """);
        Script.run("just made and just gone", """
            put 1 1 -> 201
            delete 1 -> 204
            delete 1 -> 404
            put 1 1 -> 201
            delete 1 -> 204
            """);
        Script.run("400, 403, 404", """
            delete -1 -> 400
            delete 8 -> 400
            delete 4096 -> 400
            delete MIN -> 400
            delete MAX -> 400
            delete 0 -> 403
            lock 0 true true 9 -> 200
            delete 0 -> 403
            delete 1 -> 404
            delete 9 -> 404
            """);
        Script.run("423 at the path or its parent", Texts.BRANCH + """
            lock 9 true false 9 -> 200
            delete 9 -> 423
            delete 73 -> 423
            multi -1 -> 0
            listing -1 -> 6
            head (t1)
            delete 9 -> 204
            lockOf 1 -> -1
            """);
        Script.run("423 comes before what stays", Texts.BRANCH + """
            lock 0 true true 9 -> 200
            delete 1 -> 423
            multi -1 -> 0
            head (t1)
            delete 1 -> 204
            """);
        staying();
        stayingByTheParent();
        locksThatGo();
        lookedAtBefore();
        Script.end();
    }

    private static void staying() {
        Script.run("a barred one stays, and what leads to it", Texts.BRANCH + """
            lock 585 true false 9 -> 200
            delete 1 -> 207
            multi -1 -> 1
            multi 0 -> 585
            multi 1 -> -1
            listing -1 -> 5
            kind 10 -> 0
            kind 1 -> 2
            kind 9 -> 2
            kind 73 -> 2
            kind 585 -> 1
            stamp 1 -> 1
            lockOf 1 -> 149797
            """);
        Script.run("one below a barred parent stays", Texts.BRANCH + """
            put 74 8 -> 201
            lock 9 true false 9 -> 200
            delete 1 -> 207
            multi -1 -> 3
            multi 0 -> 9
            multi 1 -> 73
            multi 2 -> 74
            multi 3 -> -1
            kind 585 -> 0          # neither it nor its parent 73 is barred
            kind 10 -> 0
            listing -1 -> 5
            """);
        Script.run("a deep lock keeps the whole branch", Texts.BRANCH + """
            lock 9 false true 9 -> 200
            writes -> 21
            delete 1 -> 207
            multi -1 -> 3
            multi 0 -> 9
            multi 1 -> 73
            multi 2 -> 585
            listing -1 -> 5
            writes -> 24
            delete 1 -> 207
            multi -1 -> 3
            writes -> 24           # nothing more can go: no writes
            """);
        Script.run("without changes there is no failure", Texts.BRANCH + """
            delete 10 -> 204
            lock 9 false true 9 -> 200
            fail 0 -> 1
            delete 1 -> 207
            multi -1 -> 3
            """);
        Script.run("the least path first", """
            mkcol 1 -> 201
            mkcol 9 -> 201
            put 73 1 -> 201
            put 15 1 -> 201
            put 10 1 -> 201
            lock 73 true false 9 -> 200
            lock 15 true false 9 -> 200
            lock 10 true false 9 -> 200
            delete 1 -> 207
            multi -1 -> 3
            multi 0 -> 10
            multi 1 -> 15
            multi 2 -> 73
            """);
        Script.run("a submitted token lets it go", Texts.BRANCH + """
            lock 585 true false 9 -> 200
            lock 10 true false 9 -> 200
            head /10(t2)
            delete 1 -> 207
            multi -1 -> 1
            multi 0 -> 585
            kind 10 -> 0
            lockOf 2 -> -1
            head /585(t1)
            delete 1 -> 204
            listing -1 -> 1
            """);
    }

    private static void stayingByTheParent() {
        Script.run("a barred parent keeps what its own token would let go", Texts.BRANCH + """
            lock 9 true false 9 -> 200
            lock 73 true false 9 -> 200
            head /73(t2)
            delete 1 -> 207
            multi -1 -> 2
            multi 0 -> 9
            multi 1 -> 73
            kind 585 -> 0
            kind 10 -> 0
            """);
        Script.run("of p's own members none stays by their parent", Texts.BRANCH + """
            lock 1 true false 9 -> 200
            head (t1)
            delete 1 -> 204
            listing -1 -> 1
            """);
    }

    private static void locksThatGo() {
        Script.run("locks whose root is gone are gone, and are counted", Texts.BRANCH + """
            lock 585 false false 9 -> 200
            lock 73 false true 9 -> 200
            lock 2 true false 9 -> 200
            writes -> 27
            head /73(t1)(t2)
            delete 9 -> 204
            lockOf 1 -> -1
            lockOf 2 -> -1
            covering 2 -1 -> 1
            writes -> 38           # three resources and two locks
            put 9 1 -> 201
            covering 9 -1 -> 0
            """);
    }

    /** "All conditions are looked at before anything changes." */
    private static void lookedAtBefore() {
        Script.run("a lock that goes still opens what is below its root", """
            mkcol 1 -> 201
            mkcol 9 -> 201
            put 73 1 -> 201
            lock 9 false true 9 -> 200
            lock 73 false false 9 -> 200
            head /9(t1)
            delete 1 -> 204
            listing -1 -> 0
            lockOf 1 -> -1
            lockOf 2 -> -1
            """);
        Script.run("the token of a lock on the parent alone opens nothing below it", """
            mkcol 1 -> 201
            mkcol 9 -> 201
            put 73 1 -> 201
            put 10 1 -> 201
            lock 9 false true 9 -> 200
            lock 9 false false 9 -> 200
            head /9(t2)
            delete 1 -> 207
            multi -1 -> 1
            multi 0 -> 73
            kind 9 -> 2
            kind 10 -> 0
            lockOf 1 -> 147494
            lockOf 2 -> 147492
            """);
        Script.run("the stamp of what goes", """
            put 1 1 -> 201
            head (e1)
            delete 1 -> 204
            head (e1)
            delete 1 -> 412
            delete 1 -> 404
            """);
    }
}
