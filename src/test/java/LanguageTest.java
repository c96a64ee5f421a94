import com.sun.management.ThreadMXBean;
import java.io.IOException;
import java.lang.management.ManagementFactory;
import java.lang.reflect.Constructor;
import java.lang.reflect.Field;
import java.lang.reflect.Method;
import java.lang.reflect.Modifier;
import java.nio.file.Files;
import java.nio.file.Path;
import java.util.Set;
import java.util.TreeSet;
import java.util.regex.Matcher;
import java.util.regex.Pattern;

/** The face of the class, and those rules of LANGUAGE.md that can be seen from outside. */
public final class LanguageTest {
    private static final Set<String> FACE = Set.of(
        "boolean head(char)", "boolean fail(int)", "int put(int,int)", "int mkcol(int)",
        "int delete(int)", "int copy(int,int,boolean,boolean)", "int move(int,int,boolean)",
        "int patch(int,int,int)", "int lock(int,boolean,boolean,int)", "int refresh(int,int)",
        "int unlock(int,int)", "int tick(int)", "int kind(int)", "int body(int)", "int stamp(int)",
        "int property(int,int)", "int covering(int,int)", "long lockOf(int)", "int multi(int)",
        "int writes()", "int listing(int)");

    private static final char[] HOLDING = "(!e1)".toCharArray();

    public static void main(String[] args) throws IOException {
        face();
        members(LockedTree.class);
        for (Class<?> inside : LockedTree.class.getDeclaredClasses()) {
            Script.due(inside + " is static", Modifier.isStatic(inside.getModifiers()) ? 1 : 0, 1);
            Script.due(inside + " is public", Modifier.isPublic(inside.getModifiers()) ? 1 : 0, 0);
            members(inside);
        }
        int classes = 1 + LockedTree.class.getDeclaredClasses().length;
        Script.due("classes: " + classes + ", too many", classes > 12 ? 1 : 0, 0);
        String text = Files.readString(Path.of("src/main/java/LockedTree.java"));
        String code = text.replaceAll("(?s)/\\*.*?\\*/", "").replaceAll("//[^\n]*", "");
        words(code);
        divisors(code);
        lengths(code);
        room();
        Script.end();
    }

    private static void face() {
        int modifiers = LockedTree.class.getModifiers();
        Script.due("public and final", modifiers & 17, Modifier.PUBLIC | Modifier.FINAL);
        Set<String> found = new TreeSet<>();
        for (Method method : LockedTree.class.getDeclaredMethods()) {
            if (Modifier.isPublic(method.getModifiers())) {
                found.add(signature(method));
            }
            boolean hidden = (method.getModifiers() & (Modifier.PUBLIC | Modifier.PRIVATE)) != 0;
            Script.due(method + " is public or private", hidden ? 1 : 0, 1);
        }
        Script.due("the face " + found, found.equals(FACE) ? 1 : 0, 1);
        for (Field field : LockedTree.class.getDeclaredFields()) {
            Script.due(field + " is private", Modifier.isPrivate(field.getModifiers()) ? 1 : 0, 1);
        }
        Constructor<?>[] constructors = LockedTree.class.getDeclaredConstructors();
        Script.due("constructors", constructors.length, 1);
        Script.due("parameters of the constructor", constructors[0].getParameterCount(), 0);
    }

    private static String signature(Method method) {
        StringBuilder text = new StringBuilder();
        text.append(method.getReturnType()).append(' ').append(method.getName()).append('(');
        String comma = "";
        for (Class<?> type : method.getParameterTypes()) {
            text.append(comma).append(type);
            comma = ",";
        }
        return text.append(')').toString();
    }

    private static void members(Class<?> type) {
        int held = 0;
        for (Field field : type.getDeclaredFields()) {
            held += Modifier.isStatic(field.getModifiers()) ? 0 : 1;
            boolean fine = !Modifier.isStatic(field.getModifiers()) || Modifier.isFinal(field.getModifiers());
            Script.due(field + " is final if static", fine ? 1 : 0, 1);
        }
        Script.due("fields of " + type + ": " + held + ", too many", held > 20 ? 1 : 0, 0);
        for (Method method : type.getDeclaredMethods()) {
            Script.due(method + " has few parameters", method.getParameterCount() <= 7 ? 1 : 0, 1);
            for (String call : FACE) {
                boolean same = call.contains(" " + method.getName() + "(");
                boolean hidden = Modifier.isPrivate(method.getModifiers());
                Script.due(method + " bears the name of a public one", same && hidden ? 1 : 0, 0);
            }
        }
    }

    private static void words(String code) {
        String[] forbidden = {"\\bpackage\\b", "\\bthrows?\\b", "\\btry\\b", "\\bcatch\\b",
            "\\bsynchronized\\b", "\\bassert\\b", "::", "\\bstatic\\s*\\{", "\\bprotected\\b",
            "\\bhashCode\\b", "(?m)^(?!\\s*(case|default)\\b).*->",
            "\\bimport (?!java\\.util\\.(ArrayList|List|Arrays|Iterator);)"};
        for (String pattern : forbidden) {
            Script.due("found " + pattern, Pattern.compile(pattern).matcher(code).find() ? 1 : 0, 0);
        }
    }

    /** "a divisor before it divides": each is a number written out, so none has to be looked at. */
    private static void divisors(String code) {
        Matcher divisor = Pattern.compile("[/%]=?+\\s*+(\\S+)").matcher(code.replaceAll("'.'", "' '"));
        int found = 0;
        while (divisor.find()) {
            found++;
            boolean written = divisor.group(1).matches("[1-9].*");
            Script.due("the divisor " + divisor.group(1) + " is a number", written ? 1 : 0, 1);
        }
        Script.due("some divisors were found", found > 0 ? 1 : 0, 1);
    }

    /** "Methods stay short (some sixty lines)"; one ends at the first brace that stands as far in. */
    private static void lengths(String code) {
        String start = "(?ms)^( {4}| {8})(?!if|for|while|switch)\\w[^\n]*\\) \\{\n(.*?)^\\1\\}\n";
        Matcher method = Pattern.compile(start).matcher(code);
        int found = 0;
        while (method.find()) {
            found++;
            long lines = method.group(2).lines().count();
            Script.due("a method of " + lines + " lines is too long", lines > 60 ? 1 : 0, 0);
        }
        Script.due("methods were found", found > 80 ? 1 : 0, 1);
    }

    /** "All calls of one run live in ONE room": an object is small, and its calls make nothing. */
    private static void room() {
        ThreadMXBean thread = (ThreadMXBean) ManagementFactory.getThreadMXBean();
        manyCalls(new LockedTree());
        thread.getCurrentThreadAllocatedBytes();
        long atFirst = thread.getCurrentThreadAllocatedBytes();
        LockedTree tree = new LockedTree();
        long whenMade = thread.getCurrentThreadAllocatedBytes();
        manyCalls(tree);
        long atLast = thread.getCurrentThreadAllocatedBytes();
        // With 4 bytes for a field and 16 for an object: some thousand fields at the most.
        Script.due("bytes of an object: " + (whenMade - atFirst) + ", too many", whenMade - atFirst > 8000 ? 1 : 0, 0);
        // Each method is called twelve times at least, and the least object has 16 bytes.
        Script.due("bytes that calls made: " + (atLast - whenMade) + ", too many", atLast - whenMade > 100 ? 1 : 0, 0);
    }

    /** Every method but the constructor, twelve times at least, in fewer than 512 calls. */
    private static void manyCalls(LockedTree tree) {
        for (int i = 0; i < 12; i++) {
            tree.mkcol(1);
            tree.put(9 + i % 5, 1);
        }
        for (int i = 0; i < 12; i++) {
            Script.due("a dear copy", tree.copy(1, 2, true, true), 201);
            Script.due("a dear move", tree.move(2, 3, true), 201);
            Script.due("a lock", tree.lock(27, true, true, 9), 200);
            Script.due("a deletion in part", tree.delete(3), 207);
            Script.due("what stays", tree.multi(0), 27);
            head(tree);
            Script.due("a refresh that is refused", tree.refresh(27, 8), 412);
            Script.due("a patch", tree.patch(1, 1, i), 200);
            Script.due("the patch", tree.property(1, 1), i);
            Script.due("a tick", tree.tick(5), 200);
            Script.due("the token", tree.covering(27, 0), i + 1);
            Script.due("a lock taken away", tree.unlock(27, i + 1), 204);
            Script.due("the lock", tree.lockOf(i + 1), -1);
            head(tree);
            tree.fail(100);
            Script.due("a dear deletion", tree.delete(3), 204);
            Script.due("resources", tree.listing(-1), 6);
            Script.due("kind and body", tree.kind(9) + tree.body(9), 2);
            Script.due("a stamp", tree.stamp(9), 12);
            Script.due("writes", tree.writes() > 0 ? 1 : 0, 1);
        }
    }

    private static void head(LockedTree tree) {
        for (char c : HOLDING) {
            tree.head(c);
        }
    }
}
