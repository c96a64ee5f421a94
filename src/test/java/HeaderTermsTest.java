/** The terms of the header: when it is well formed, when it holds, which tokens it submits. */
public final class HeaderTermsTest {
    private static final int ROOT_DONE = 200;
    private static final int UNMET = 412;
    private static final int MALFORMED = 400;

    public static void main(String[] args) {
        wellFormed();
        malformed();
        holding();
        aboutPaths();
        submitting();
        Script.end();
    }

    private static void each(int due, String... headers) {
        for (String header : headers) {
            LockedTree tree = new LockedTree();
            for (char c : header.toCharArray()) {
                Script.due("head " + header, tree.head(c) ? 1 : 0, 1);
            }
            Script.due("tick(0) with " + header, tree.tick(0), due);
        }
    }

    private static void wellFormed() {
        each(ROOT_DONE, "", "(e0)", "(e00)", "(e000)", "(e0000)", "(!e1)", "(!t1)", "(!t9999)",
            "(e0!e1)", "(!e1e0)", "(e0e0e0)", "(e0)(e0)", "(e0)(e0)(e0)", "(e0000e0000!e0001!t1)",
            "/0(e0)", "/0(e0)(e1)", "/0(e1)(e0)", "/0(e0)/0(e0)", "/0000(e0)", "/4095(!e0)",
            "/1(!e0)", "/7(!e0)", "/9(!e0)", "/0073(!e0)", "/585(!t1)", "/0(e1)(e1)/1(e0)(!e0)");
    }

    private static void malformed() {
        each(MALFORMED, "(", ")", "/", "t", "e", "!", "0", "7", "()", "(e)", "(t)", "(!)", "(!e)",
            "(0)", "(!0)", "(e0", "e0)", "e0", "!e0", "t1", "((e0))", "(e0))", "((e0)", "(e0)(",
            "(e0)()", "()(e0)", "(!!e1)", "(!(e1))", "(e0!)", "(e!0)", "(ee0)", "(te0)", "(e0t)",
            "(e00000)", "(e00001)", "(t12345)", "(e0)0", "(e0)e0", "(e0)!", "(e0)!(e0)", "(e0)t1",
            "/0", "/0()", "/(e0)", "//0(e0)", "/0/0(e0)", "/0(e0)/", "/0(e0)/0", "/0(e0)/(e0)",
            "/00000(e0)", "/00001(e0)", "/0e0", "/e0(e0)", "/!0(e0)", "/t1(e0)", "/0)e0(",
            "/8(!e0)", "/16(!e0)", "/64(!e0)", "/65(!e0)", "/512(!e0)", "/4096(!e0)", "/9999(!e0)",
            "/4088(!e0)", "/448(!e0)", "(e0)/0(e0)", "(e0)(e0)/0(e0)", "/0(e0)0(e0)", "0(e0)",
            "(e0/0)", "(/0e0)", "(e0)/", "/0(e0))", "(t1(e0))", "(t1t1t1t1t1t1t1t1t1t1t1t");
    }

    private static void holding() {
        each(UNMET, "(e1)", "(!e0)", "(t0)", "(t1)", "(e0e1)", "(e1e0)", "(e0!e0)", "(e1)(e2)",
            "(e0t1)", "(!e0)(t1)", "/0(e1)", "/7(e0)", "/7(e1)", "/0(e1)/7(e0)", "(e1000)",
            "/0(t1)", "/0(e0e1)(e1e0)", "/0(!e0)/1(e0)/2(e0)");
        each(ROOT_DONE, "(e1)(e0)", "(e1)(e1)(e0)", "(e0)(e1)", "(e0e1)(e0)", "(e0)(e0e1)",
            "/0(e1)/0(e0)", "/0(e1)/7(!e0)", "/7(e0)/0(e0)", "/7(!e0!e1!t1)");
        Script.run("malformed before unmet, and a bad number before both", """
            head (e1)(
            tick 0 -> 400
            head (e1)
            tick -1 -> 400
            head (e1)
            put 8 1 -> 400
            """);
    }

    private static void aboutPaths() {
        Script.run("stamps, about the request's path", """
            mkcol 1 -> 201
            put 9 1 -> 201
            head (e2)
            patch 9 0 1 -> 200
            head (e1)
            patch 9 0 1 -> 412
            head (e1)
            copy 1 2 true true -> 201    # the request's path is p, not q
            head (e3)
            move 1 2 true -> 412
            head (e1)
            move 1 2 true -> 204
            head (e1)
            lock 2 false false 1 -> 200
            head (e0)
            tick 0 -> 200
            head (e1)
            tick 0 -> 412
            """);
        Script.run("stamps, about the path of a group", """
            mkcol 1 -> 201
            put 9 1 -> 201
            head /9(e2)
            patch 1 0 1 -> 200
            head /1(e1)
            patch 9 0 1 -> 200
            head /1(e2)
            patch 9 0 1 -> 412
            head /1(e2)(e1)
            patch 9 0 1 -> 200
            head /1(e2)/9(e1)
            patch 9 0 1 -> 412
            head /1(e2)/9(e1)(e2)
            patch 9 0 1 -> 200
            head /10(e0)
            patch 9 0 1 -> 412
            head /10(!e0)
            patch 9 0 1 -> 200
            """);
        Script.run("lists without groups, after a header with groups", """
            put 1 1 -> 201
            head /0(e0)
            put 1 2 -> 204
            head (e2)
            put 1 3 -> 204
            head /1(e3)
            tick 0 -> 200
            head (e3)/1(e3)
            tick 0 -> 400
            """);
        Script.run("a negated condition about a path without a resource", """
            head (!e0)
            put 1 5 -> 201
            head (!e1)
            put 1 6 -> 412
            """);
        Script.run("tokens, about the path that the lock covers", """
            mkcol 1 -> 201
            mkcol 2 -> 201
            lock 1 true true 9 -> 200
            lock 2 true false 9 -> 200
            head /1(t1)
            tick 0 -> 200
            head /9(t1)
            tick 0 -> 200
            head /0(t1)
            tick 0 -> 412
            head /2(t1)
            tick 0 -> 412
            head /2(t2)
            tick 0 -> 200
            head /17(t2)
            tick 0 -> 412
            head /17(!t2)
            tick 0 -> 200
            head /2(!t2)
            tick 0 -> 412
            head /1(t0001)
            tick 0 -> 200
            head /1(t11)
            tick 0 -> 412
            """);
    }

    private static void submitting() {
        String locked = """
            mkcol 1 -> 201
            put 9 1 -> 201
            lock 9 true false 9 -> 200
            lock 1 false false 9 -> 200
            """;
        Script.run("nothing submitted", locked + "put 9 2 -> 423");
        Script.run("in a list that holds", locked + "head (t1)\nput 9 2 -> 204");
        Script.run("with zeros before it", locked + "head (t0001)\nput 9 2 -> 204");
        Script.run("another number with the same end", locked + "head (!t11)\nput 9 2 -> 423");
        Script.run("negated, about another path", locked + "head /0(!t1)\nput 9 2 -> 204");
        Script.run("in a list that does not hold", locked + "head (t1e7)(e2)\nput 9 2 -> 204");
        Script.run("in another list", locked + "head (e2)(t1)\nput 9 2 -> 204");
        Script.run("about another path", locked + "head /9(e2)/7(t1)\nput 9 2 -> 204");
        Script.run("negated in a list that does not hold", locked + "head (!t1)(e2)\nput 9 2 -> 204");
        Script.run("a stamp is no token", locked + "head (!e1)\nput 9 2 -> 423");
        Script.run("another's token", locked + "head /1(t2)\nput 9 2 -> 423");
        Script.run("one token for each barred path", locked + """
            delete 9 -> 423
            head (t1)
            delete 9 -> 423
            head /1(t2)
            delete 9 -> 423
            head /1(t2)(t1)
            delete 9 -> 204
            """);
        Script.run("tokens are submitted to one request alone", locked + """
            head (t1)
            put 9 2 -> 204
            put 9 3 -> 423
            """);
        Script.run("one of the shared locks is enough", """
            put 1 1 -> 201
            lock 1 false false 9 -> 200
            lock 1 false true 9 -> 200
            put 1 2 -> 423
            head (t2)
            put 1 2 -> 204
            head (t1)
            put 1 3 -> 204
            head (!t3)
            put 1 4 -> 423
            """);
    }
}
