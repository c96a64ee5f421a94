import com.sun.management.ThreadMXBean;
import java.io.IOException;
import java.lang.management.ManagementFactory;
import java.lang.reflect.Constructor;
import java.lang.reflect.Field;
import java.lang.reflect.Method;
import java.lang.reflect.Modifier;
import java.nio.file.Files;
import java.nio.file.Path;
import java.util.Set;
import java.util.TreeSet;
import java.util.regex.Pattern;

/** The face of the class, and those rules of LANGUAGE.md that can be seen from outside. */
public final class LanguageTest {
    private static final Set<String> FACE = Set.of(
        "boolean head(char)", "boolean fail(int)", "int put(int,int)", "int mkcol(int)",
        "int delete(int)", "int copy(int,int,boolean,boolean)", "int move(int,int,boolean)",
        "int patch(int,int,int)", "int lock(int,boolean,boolean,int)", "int refresh(int,int)",
        "int unlock(int,int)", "int tick(int)", "int kind(int)", "int body(int)", "int stamp(int)",
        "int property(int,int)", "int covering(int,int)", "long lockOf(int)", "int multi(int)",
        "int writes()", "int listing(int)");

    private static final char[] HOLDING = "(!e1)".toCharArray();

    public static void main(String[] args) throws IOException {
        face();
        members(LockedTree.class);
        for (Class<?> inside : LockedTree.class.getDeclaredClasses()) {
            Script.due(inside + " is static", Modifier.isStatic(inside.getModifiers()) ? 1 : 0, 1);
            Script.due(inside + " is public", Modifier.isPublic(inside.getModifiers()) ? 1 : 0, 0);
            members(inside);
        }
        source(Files.readString(Path.of("src/main/java/LockedTree.java")));
        room();
        Script.end();
    }

    private static void face() {
        int modifiers = LockedTree.class.getModifiers();
        Script.due("public and final", modifiers & 17, Modifier.PUBLIC | Modifier.FINAL);
        Set<String> found = new TreeSet<>();
        for (Method method : LockedTree.class.getDeclaredMethods()) {
            if (Modifier.isPublic(method.getModifiers())) {
                found.add(signature(method));
            }
            boolean hidden = (method.getModifiers() & (Modifier.PUBLIC | Modifier.PRIVATE)) != 0;
            Script.due(method + " is public or private", hidden ? 1 : 0, 1);
        }
        Script.due("the face " + found, found.equals(FACE) ? 1 : 0, 1);
        for (Field field : LockedTree.class.getDeclaredFields()) {
            Script.due(field + " is private", Modifier.isPrivate(field.getModifiers()) ? 1 : 0, 1);
        }
        Constructor<?>[] constructors = LockedTree.class.getDeclaredConstructors();
        Script.due("constructors", constructors.length, 1);
        Script.due("parameters of the constructor", constructors[0].getParameterCount(), 0);
    }

    private static String signature(Method method) {
        StringBuilder text = new StringBuilder();
        text.append(method.getReturnType()).append(' ').append(method.getName()).append('(');
        String comma = "";
        for (Class<?> type : method.getParameterTypes()) {
            text.append(comma).append(type);
            comma = ",";
        }
        return text.append(')').toString();
    }

    private static void members(Class<?> type) {
        for (Field field : type.getDeclaredFields()) {
            boolean fine = !Modifier.isStatic(field.getModifiers()) || Modifier.isFinal(field.getModifiers());
            Script.due(field + " is final if static", fine ? 1 : 0, 1);
        }
        for (Method method : type.getDeclaredMethods()) {
            Script.due(method + " has few parameters", method.getParameterCount() <= 7 ? 1 : 0, 1);
            for (String call : FACE) {
                boolean same = call.contains(" " + method.getName() + "(");
                boolean hidden = Modifier.isPrivate(method.getModifiers());
                Script.due(method + " bears the name of a public one", same && hidden ? 1 : 0, 0);
            }
        }
    }

    private static void source(String text) {
        String code = text.replaceAll("(?s)/\\*.*?\\*/", "").replaceAll("//[^\n]*", "");
        String[] forbidden = {"\\bpackage\\b", "\\bthrows?\\b", "\\btry\\b", "\\bcatch\\b",
            "\\bsynchronized\\b", "\\bassert\\b", "::", "\\bstatic\\s*\\{", "\\bprotected\\b",
            "\\bhashCode\\b", "(?m)^(?!\\s*(case|default)\\b).*->",
            "\\bimport (?!java\\.util\\.(ArrayList|List|Arrays|Iterator);)"};
        for (String pattern : forbidden) {
            Script.due("found " + pattern, Pattern.compile(pattern).matcher(code).find() ? 1 : 0, 0);
        }
    }

    /** "All calls of one run live in ONE room": ten objects that each make 500 dear calls. */
    private static void room() {
        ThreadMXBean thread = (ThreadMXBean) ManagementFactory.getThreadMXBean();
        manyCalls();
        long before = thread.getCurrentThreadAllocatedBytes();
        for (int i = 0; i < 10; i++) {
            manyCalls();
        }
        long made = thread.getCurrentThreadAllocatedBytes() - before;
        // An object has 16 bytes at least, so this is well within 600,000 of them.
        Script.due("bytes made: " + made + ", too many", made > 8_000_000 ? 1 : 0, 0);
    }

    private static void manyCalls() {
        LockedTree tree = new LockedTree();
        tree.mkcol(1);
        for (int p = 9; p <= 13; p++) {
            tree.put(p, 1);
        }
        for (int i = 0; i < 60; i++) {
            Script.due("a dear copy", tree.copy(1, 2, true, true), 201);
            for (char c : HOLDING) {
                tree.head(c);
            }
            Script.due("a dear deletion", tree.delete(2), 204);
            tree.listing(-1);
        }
    }
}
