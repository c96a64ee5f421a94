/**
 * "It is WELL FORMED when ..", and when it HOLDS: all headers of up to six characters, out of a few
 * that stand for all, answered as the Model answers them. And the edges of a NUM: no digit, one,
 * four, five.
 */
public final class HeaderShapesTest {
    /** 0 is a path and the root's stamp, 8 is neither. */
    private static final char[] CHARACTERS = "()/te!08".toCharArray();
    private static final int LONGEST = 6;

    public static void main(String[] args) {
        extend("");
        digits();
        emptyParts();
        valueOfNumbers();
        Script.end();
    }

    private static void extend(String header) {
        compare(header);
        if (header.length() < LONGEST) {
            for (char c : CHARACTERS) {
                extend(header + c);
            }
        }
    }

    private static void compare(String header) {
        LockedTree tree = new LockedTree();
        Model model = new Model();
        for (char c : header.toCharArray()) {
            tree.head(c);
            model.head(c);
        }
        Script.due("tick(0) with " + header, tree.tick(0), model.tick(0));
    }

    /** "A NUM is one to four digits (.. so five are not well formed)". */
    private static void digits() {
        for (int count = 0; count <= 6; count++) {
            int due = count >= 1 && count <= 4 ? 200 : 400;
            String zeros = "0".repeat(count);
            String nines = "9".repeat(count);
            String ones = "1".repeat(count);
            Script.run("stamp of " + count, "head (e" + zeros + "); tick 0 -> " + due);
            Script.run("other stamp of " + count, "head (!e" + nines + "); tick 0 -> " + due);
            Script.run("token of " + count, "head (!t" + nines + "); tick 0 -> " + due);
            Script.run("second of " + count, "head (e0!t" + ones + "); tick 0 -> " + due);
            Script.run("first of " + count, "head (!t" + ones + "e0); tick 0 -> " + due);
            Script.run("group of " + count, "head /" + zeros + "(e0); tick 0 -> " + due);
            Script.run("second group of " + count, "head /0(e0)/" + zeros + "(e0); tick 0 -> " + due);
        }
    }

    /** "one or more": lists in a group, conditions in a list. */
    private static void emptyParts() {
        Script.run("no list", "head /0; tick 0 -> 400");
        Script.run("one list", "head /0(e0); tick 0 -> 200");
        Script.run("two lists", "head /0(e1)(e0); tick 0 -> 200");
        Script.run("no list in the second group", "head /0(e0)/0; tick 0 -> 400");
        Script.run("no list in the first group", "head /0/0(e0); tick 0 -> 400");
        Script.run("no condition", "head (); tick 0 -> 400");
        Script.run("one condition", "head (e0); tick 0 -> 200");
        Script.run("as many conditions as there can be", "head (e0e0e0e0e0e0e0e0e0e0e0); tick 0 -> 200");
        Script.run("the last of them counts", "head (e0e0e0e0e0e0e0e0e0e0e1); tick 0 -> 412");
        Script.run("no condition in the second list", "head (e0)(); tick 0 -> 400");
        Script.run("as many lists as there can be", "head (e1)(e1)(e1)(e1)(e1)(e0); tick 0 -> 200");
        Script.run("none of them holds", "head (e1)(e1)(e1)(e1)(e1)(e1); tick 0 -> 412");
        Script.run("as many groups as there can be", "head /0(e1)/0(e1)/0(e1)/0(e0); tick 0 -> 200");
        Script.run("the header is empty", "tick 0 -> 200");
    }

    /** The digits are decimal, those in front count, too, and zeros before them do not. */
    private static void valueOfNumbers() {
        String setup = "mkcol 1 -> 201; put 9 1 -> 201\n" + "put 9 1 -> 204\n".repeat(120);
        Script.run("three digits", setup + "stamp 9 -> 122; head (e122); patch 9 0 1 -> 200;"
            + "head (e0122); patch 9 0 1 -> 200; head (e121); patch 9 0 1 -> 412;"
            + "head (e123); patch 9 0 1 -> 412; head (e12); patch 9 0 1 -> 412;"
            + "head (e22); patch 9 0 1 -> 412; head (e1220); patch 9 0 1 -> 412;"
            + "head (e0022); patch 9 0 1 -> 412; head (e1122); patch 9 0 1 -> 412");
        Script.run("a path of two digits with zeros before it", setup
            + "head /0009(e122); tick 0 -> 200; head /009(e122); tick 0 -> 200; head /9(e122); tick 0 -> 200;"
            + "head /1(e122); tick 0 -> 412; head /90(e122); tick 0 -> 412; head /11(e122); tick 0 -> 412");
    }
}
