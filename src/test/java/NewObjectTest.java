/** Promise 1. */
public final class NewObjectTest {
    public static void main(String[] args) {
        Script.run("the root alone", """
            listing -1 -> 0
            listing 0 -> -1
            kind 0 -> 2
            body 0 -> 0
            stamp 0 -> 0
            property 0 0 -> 0
            property 0 1 -> 0
            property 0 2 -> 0
            kind 1 -> 0
            """);
        Script.run("no locks, no writes, no list", """
            covering 0 -1 -> 0
            covering 0 0 -> -1
            lockOf 0 -> -1
            lockOf 1 -> -1
            writes -> 0
            multi -1 -> 0
            multi 0 -> -1
            """);
        Script.run("an empty header and no failure", """
            put 1 5 -> 201
            writes -> 3
            """);
        Script.run("there is room for a whole header", """
            head (e0e0e0e0e0e0e0e0e0e0e0)
            tick 0 -> 200
            """);
        Script.run("the first stamp, the first token and the clock", """
            put 1 5 -> 201
            stamp 1 -> 1
            lock 1 false false 1 -> 200
            lockOf 1 -> 16388
            """);
        Script.end();
    }
}
