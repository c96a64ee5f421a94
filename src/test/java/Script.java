/**
 * Runs of calls written as text. A line is "put 9 5 -> 201": a call, its arguments and the answer
 * that is due. The line "head (t1)" adds each character of a header, all of which must be taken;
 * "#" begins a remark; a ";" parts two calls on one line.
 */
final class Script {
    private static int calls = 0;
    private static int wrong = 0;

    private Script() {
    }

    static void run(String title, String text) {
        after(title, text);
    }

    /** A new object on which the calls have been made. */
    static LockedTree after(String title, String text) {
        LockedTree tree = new LockedTree();
        on(title, tree, text);
        return tree;
    }

    static void on(String title, LockedTree tree, String text) {
        for (String line : text.replaceAll("#[^\n]*", "").split("[\n;]")) {
            if (!line.isBlank()) {
                runLine(title, tree, line.strip());
            }
        }
    }

    static void same(String what, String got, String want) {
        calls++;
        if (!got.equals(want)) {
            wrong++;
            System.out.println(what + " is\n  " + got + "\ndue is\n  " + want);
        }
    }

    static void due(String what, long got, long want) {
        calls++;
        if (got != want) {
            wrong++;
            System.out.println(what + " answered " + got + ", due is " + want);
        }
    }

    /** Every test ends with this: the exit code is 1 if an answer was wrong. */
    static void end() {
        System.out.println(calls + " answers, " + wrong + " wrong");
        if (wrong != 0 || calls == 0) {
            System.exit(1);
        }
    }

    private static void runLine(String title, LockedTree tree, String line) {
        if (line.startsWith("head ")) {
            addHeader(title, tree, line.substring(5).strip());
            return;
        }
        String[] sides = line.split("->");
        String[] words = sides[0].strip().split(" +");
        int[] arguments = new int[words.length - 1];
        for (int i = 0; i < arguments.length; i++) {
            arguments[i] = (int) number(words[i + 1]);
        }
        due(title + ": " + line, Calls.make(tree, words[0], arguments), number(sides[1].strip()));
    }

    private static void addHeader(String title, LockedTree tree, String header) {
        for (char c : header.toCharArray()) {
            due(title + ": head " + header + " at " + c, tree.head(c) ? 1 : 0, 1);
        }
    }

    private static long number(String word) {
        switch (word) {
            case "true":
                return 1;
            case "false":
                return 0;
            case "MIN":
                return Integer.MIN_VALUE;
            case "MAX":
                return Integer.MAX_VALUE;
            default:
                return Long.parseLong(word);
        }
    }
}
