import java.util.ArrayList;
import java.util.List;
import java.util.Random;
import java.util.TreeMap;
import java.util.TreeSet;

/**
 * Runs of requests drawn from fixed seeds, answered alike by LockedTree and by the Model. No run
 * makes more than the 512 calls that an object is made for.
 */
public final class RandomRunsTest {
    private static final int RUNS = 4000;
    private static final int CALLS_A_RUN = 512;
    /** More than a look at everything needs. */
    private static final int LAST_LOOK = 180;
    private static final int[] ODD = {-1, -2, 8, 64, 520, 4096, 1000000, Integer.MIN_VALUE, Integer.MAX_VALUE};
    private static final List<String> REQUESTS = List.of("put", "mkcol", "delete", "copy", "move",
        "patch", "lock", "refresh", "unlock", "tick");
    private static final String[] GROWING = {"put", "mkcol", "mkcol", "mkcol", "copy", "move"};
    private static final String[] LOCKING = {"lock", "lock", "lock", "lock", "refresh", "delete"};
    private static final TreeMap<String, TreeSet<Long>> SEEN = new TreeMap<>();
    private static boolean noRoomForLocks = false;

    private final Random random;
    private final LockedTree tree = new LockedTree();
    private final Model model = new Model();
    private final List<String> told = new ArrayList<>();
    private final boolean grows;
    private final boolean locks;
    private int calls = 0;
    private int stamps = 1;
    private int tokens = 1;
    private boolean wrong = false;

    private RandomRunsTest(long seed) {
        random = new Random(seed);
        // Half of the runs begin with much and delete little, so that the tree gets full and deep.
        grows = seed % 2 == 0;
        // A third of them, of either half, locks much, so that there are as many locks as can be.
        locks = seed % 3 == 0;
    }

    public static void main(String[] args) {
        for (int seed = 0; seed < RUNS; seed++) {
            RandomRunsTest run = new RandomRunsTest(seed);
            run.go();
            Script.due("wrong answers of the run " + seed, run.wrong ? 1 : 0, 0);
            if (run.wrong) {
                run.told.forEach(System.out::println);
                break;
            }
        }
        everyStatusWasSeen();
        Script.end();
    }

    /** The runs are worth something only if they meet every status of every request. */
    private static void everyStatusWasSeen() {
        expect("put", 0, 201, 204, 400, 405, 409, 412, 423, 507);
        expect("mkcol", 0, 201, 400, 405, 409, 412, 423, 507);
        expect("delete", 0, 204, 207, 400, 403, 404, 412, 423);
        expect("copy", 0, 201, 204, 400, 403, 404, 409, 412, 423, 507);
        expect("move", 0, 201, 204, 400, 403, 404, 409, 412, 423, 507);
        expect("patch", 0, 200, 400, 404, 412, 423);
        expect("lock", 0, 200, 201, 400, 409, 412, 423, 507);
        expect("refresh", 0, 200, 400, 412);
        expect("unlock", 0, 204, 400, 409, 412);
        expect("tick", 0, 200, 400, 412);
        Script.due("a seventh lock was refused", noRoomForLocks ? 1 : 0, 1);
    }

    private static void expect(String request, long... statuses) {
        TreeSet<Long> due = new TreeSet<>();
        for (long status : statuses) {
            due.add(status);
        }
        boolean alike = due.equals(SEEN.get(request));
        Script.due(request + " with statuses " + SEEN.get(request), alike ? 1 : 0, 1);
    }

    private void go() {
        for (int i = 0; grows && i < 16; i++) {
            sprout();
        }
        while (calls < CALLS_A_RUN - LAST_LOOK && !wrong) {
            if (random.nextInt(3) == 0) {
                addHeader(random.nextBoolean() ? anyHeader() : holdingHeader());
            }
            if (random.nextInt(4) == 0) {
                call("fail", random.nextInt(10) == 0 ? odd() : random.nextInt(flag() == 1 ? 6 : 26) - 1);
            }
            request(anyRequest());
            glance();
        }
        look();
        if (calls > CALLS_A_RUN) {
            Script.due("calls of one run are at most", calls, CALLS_A_RUN);
        }
    }

    private String anyRequest() {
        if (locks && random.nextInt(3) > 0) {
            return LOCKING[random.nextInt(LOCKING.length)];
        }
        boolean growing = grows && random.nextInt(5) > 0;
        return growing ? GROWING[random.nextInt(GROWING.length)]
            : REQUESTS.get(random.nextInt(REQUESTS.size()));
    }

    private long call(String name, int... arguments) {
        long got = Calls.make(tree, name, arguments);
        long want = Calls.make(model, name, arguments);
        StringBuilder line = new StringBuilder(name);
        for (int argument : arguments) {
            line.append(' ').append(argument);
        }
        calls++;
        told.add(line + " -> " + want + (got == want ? "" : " but answered " + got));
        wrong |= got != want;
        return want;
    }

    private void request(String name) {
        long status;
        switch (name) {
            case "put":
                status = call(name, path(flag() == 1), random.nextInt(15) == 0 ? odd() : random.nextInt(1000000));
                break;
            case "copy":
                status = call(name, path(false), path(flag() == 1), flag(), flag());
                break;
            case "move":
                status = call(name, path(false), path(flag() == 1), flag());
                break;
            case "patch":
                status = call(name, path(false), random.nextInt(15) == 0 ? odd() : random.nextInt(3),
                    random.nextInt(15) == 0 ? odd() : random.nextInt(3));
                break;
            case "lock":
                status = call(name, path(), random.nextInt(locks ? 12 : 3) == 0 ? 1 : 0, flag(), time());
                noRoomForLocks |= status == 507 && Calls.make(model, "listing", -1) < 12;
                break;
            case "refresh":
                status = call(name, path(), time());
                break;
            case "unlock":
                status = call(name, path(), token());
                break;
            case "tick":
                status = call(name, random.nextInt(15) == 0 ? odd() : random.nextInt(12));
                break;
            case "delete":
                status = call(name, path(false));
                call("multi", -1);
                break;
            default:
                status = call(name, path(random.nextInt(4) > 0));
        }
        SEEN.computeIfAbsent(name, key -> new TreeSet<>()).add(status);
    }

    private void sprout() {
        int there = there();
        int member = there * 8 + 1 + random.nextInt(7);
        if (random.nextInt(4) == 0) {
            call("put", member, random.nextInt(1000));
        } else {
            call("mkcol", member);
        }
    }

    /** What shows at once, and one more thing by chance. */
    private void glance() {
        call("writes");
        int k = random.nextInt(14) - 1;
        switch (random.nextInt(5)) {
            case 0:
                call("listing", k);
                break;
            case 1:
                call("multi", k);
                break;
            case 2:
                call("covering", path(), random.nextInt(8) - 1);
                break;
            case 3:
                call("lockOf", token());
                break;
            default:
                call("stamp", path());
        }
        learn();
    }

    /** The tests' own knowledge of what could be asked for, from the Model. */
    private void learn() {
        for (int k = 0; k < 12; k++) {
            int p = (int) Calls.make(model, "listing", k);
            stamps = Math.max(stamps, (int) Calls.make(model, "stamp", p) + 1);
        }
        for (int k = 1; k <= 6; k++) {
            tokens = Math.max(tokens, Calls.make(model, "lockOf", tokens + k) >= 0 ? tokens + k : tokens);
        }
    }

    private void look() {
        call("multi", -1);
        call("multi", 0);
        long count = call("listing", -1);
        for (int k = 0; k <= count; k++) {
            lookAt((int) call("listing", k));
        }
        lookAt(0);
        lookAt(path());
        for (int token = Math.max(0, tokens - 12); token <= tokens + 1; token++) {
            call("lockOf", token);
        }
        int p = path();
        for (int k = -2; k < 7; k++) {
            call("covering", p, k);
        }
    }

    private void lookAt(int p) {
        call("kind", p);
        call("body", p);
        call("stamp", p);
        for (int key = 0; key <= 2; key++) {
            call("property", p, key);
        }
        call("covering", p, -1);
    }

    private void addHeader(String text) {
        for (char c : text.toCharArray()) {
            call("head", c);
        }
    }

    private String anyHeader() {
        StringBuilder text = new StringBuilder();
        boolean grouped = random.nextBoolean();
        int lists = 1 + random.nextInt(3);
        for (int i = 0; i < lists; i++) {
            if (grouped && (i == 0 || random.nextInt(3) > 0)) {
                text.append('/').append(path());
            }
            text.append('(');
            int conditions = 1 + random.nextInt(2);
            for (int j = 0; j < conditions; j++) {
                text.append(condition());
            }
            text.append(')');
        }
        if (random.nextInt(8) == 0) {
            text.setCharAt(random.nextInt(text.length()), "()/te!0123456789 x".charAt(random.nextInt(18)));
        }
        return text.toString();
    }

    /** One of its lists holds, whatever there is, and it submits some tokens. */
    private String holdingHeader() {
        int token = token();
        StringBuilder text = new StringBuilder("(!t").append(token).append(")(t").append(token).append(')');
        if (random.nextBoolean()) {
            text.append("(t").append(token()).append('t').append(token()).append(')');
        }
        return text.toString();
    }

    private String condition() {
        String not = random.nextInt(2) == 0 ? "!" : "";
        if (random.nextInt(3) > 0) {
            return not + "t" + token();
        }
        return not + "e" + (random.nextBoolean() ? random.nextInt(stamps) : stamps - 1);
    }

    private int token() {
        return Math.max(0, tokens - random.nextInt(7) + 1);
    }

    /** Mostly one that is there or its member; or of few names, so that paths meet; or no path. */
    private int path() {
        return path(random.nextInt(3) == 0);
    }

    private int path(boolean member) {
        int draw = random.nextInt(40);
        if (draw == 0) {
            return odd();
        }
        if (draw < 32) {
            int there = there();
            return !member || there > 511 ? there : there * 8 + 1 + random.nextInt(7);
        }
        int names = random.nextInt(5);
        int p = 0;
        for (int i = 0; i < names; i++) {
            p = p * 8 + 1 + (random.nextInt(8) == 0 ? random.nextInt(7) : random.nextInt(3));
        }
        return p;
    }

    /** The path of a resource, seldom of the root. */
    private int there() {
        int count = (int) Calls.make(model, "listing", -1);
        return Math.max(0, (int) Calls.make(model, "listing", random.nextInt(count + 1)));
    }

    private int odd() {
        return ODD[random.nextInt(ODD.length)];
    }

    private int flag() {
        return random.nextInt(2);
    }

    private int time() {
        return random.nextInt(15) == 0 ? odd() : 1 + random.nextInt(random.nextInt(5) == 0 ? 100 : 25);
    }
}
