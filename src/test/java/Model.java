import java.util.ArrayList;
import java.util.HashSet;
import java.util.List;
import java.util.Set;
import java.util.TreeMap;
import java.util.regex.Matcher;
import java.util.regex.Pattern;

/**
 * The document read a second time, with the Java library and without a thought for speed: paths
 * are texts of names, each request works on a copy of the state, and the header is matched by
 * regular expressions.
 */
public final class Model {
    private static final String LIST = "\\((?:!?[te][0-9]{1,4})+\\)";
    private static final Pattern LISTS = Pattern.compile("(?:" + LIST + ")+");
    private static final Pattern GROUPS = Pattern.compile("(?:/[0-9]{1,4}(?:" + LIST + ")+)+");
    private static final Pattern PART = Pattern.compile("/([0-9]+)|\\(([^)]*)\\)");
    private static final Pattern CONDITION = Pattern.compile("(!?)([te])([0-9]+)");

    private record Thing(boolean collection, int body, int stamp, List<Integer> properties) {
    }

    private record Hold(String root, boolean exclusive, boolean deep, int end) {
        boolean covers(String path) {
            return path.equals(root) || deep && path.startsWith(root);
        }
    }

    /** Paths are texts such as "17" for the member 7 of the member 1 of the root, which is "". */
    private static final class State {
        final TreeMap<Integer, Thing> things = new TreeMap<>();
        final TreeMap<Integer, Hold> holds = new TreeMap<>();
        int clock = 0;
        int stamps = 0;
        int tokens = 0;

        State copied() {
            State copy = new State();
            copy.things.putAll(things);
            copy.holds.putAll(holds);
            copy.clock = clock;
            copy.stamps = stamps;
            copy.tokens = tokens;
            return copy;
        }

        Thing at(String path) {
            return things.get(number(path));
        }

        boolean collectionAbove(String path) {
            Thing parent = path.isEmpty() ? null : at(above(path));
            return parent != null && parent.collection;
        }
    }

    private State state = new State();
    private State planned;
    private String header = "";
    private int failure = -1;
    private int writes = 0;
    private List<Integer> multi = new ArrayList<>();

    public Model() {
        state.things.put(0, new Thing(true, 0, 0, List.of(0, 0, 0)));
    }

    private static String text(int p) {
        if (p == 0) {
            return "";
        }
        String octal = p < 0 || p > 4095 ? "0" : Integer.toOctalString(p);
        return octal.contains("0") ? null : octal;
    }

    private static int number(String path) {
        return path.isEmpty() ? 0 : Integer.parseInt(path, 8);
    }

    private static String above(String path) {
        return path.substring(0, path.length() - 1);
    }

    private static boolean below(String path, String top) {
        return path.length() > top.length() && path.startsWith(top);
    }

    public boolean head(char c) {
        if (header.length() == 24 || "()/te!0123456789".indexOf(c) < 0) {
            return false;
        }
        header += c;
        return true;
    }

    public boolean fail(int n) {
        if (n < -1 || n > 100) {
            return false;
        }
        failure = n;
        return true;
    }

    private boolean wellFormed() {
        if (header.isEmpty() || LISTS.matcher(header).matches()) {
            return true;
        }
        if (!GROUPS.matcher(header).matches()) {
            return false;
        }
        Matcher part = PART.matcher(header);
        while (part.find()) {
            if (part.group(1) != null && text(Integer.parseInt(part.group(1))) == null) {
                return false;
            }
        }
        return true;
    }

    private boolean headerHolds(String requestPath) {
        String about = requestPath;
        boolean some = header.isEmpty();
        Matcher part = PART.matcher(header);
        while (part.find()) {
            if (part.group(1) != null) {
                about = text(Integer.parseInt(part.group(1)));
            } else {
                some |= listHolds(part.group(2), about);
            }
        }
        return some;
    }

    private boolean listHolds(String list, String about) {
        boolean all = true;
        Matcher condition = CONDITION.matcher(list);
        while (condition.find()) {
            int n = Integer.parseInt(condition.group(3));
            boolean so;
            if (condition.group(2).equals("t")) {
                so = state.holds.containsKey(n) && state.holds.get(n).covers(about);
            } else {
                so = state.at(about) != null && state.at(about).stamp == n;
            }
            all &= so ^ !condition.group(1).isEmpty();
        }
        return all;
    }

    private Set<Integer> submitted() {
        Set<Integer> tokens = new HashSet<>();
        Matcher condition = CONDITION.matcher(header);
        while (condition.find()) {
            if (condition.group(2).equals("t")) {
                tokens.add(Integer.parseInt(condition.group(3)));
            }
        }
        return tokens;
    }

    private boolean barred(String path) {
        Set<Integer> tokens = submitted();
        boolean covered = state.holds.values().stream().anyMatch(hold -> hold.covers(path));
        boolean opened = state.holds.entrySet().stream()
            .anyMatch(entry -> entry.getValue().covers(path) && tokens.contains(entry.getKey()));
        return covered && !opened;
    }

    private boolean branchBarred(String top) {
        return barred(above(top)) || barred(top) || state.things.keySet().stream()
            .map(Model::text).anyMatch(path -> below(path, top) && barred(path));
    }

    private int end(int answer) {
        header = "";
        failure = -1;
        if (answer != 207) {
            multi = new ArrayList<>();
        }
        return answer;
    }

    private boolean opens(boolean numbers, String path) {
        return numbers && wellFormed() && headerHolds(path);
    }

    private int refused(boolean numbers) {
        return end(numbers && wellFormed() ? 412 : 400);
    }

    private int commit(int answer) {
        planned.holds.values().removeIf(hold -> planned.at(hold.root) == null || hold.end <= planned.clock);
        int k = planned.clock == state.clock ? 0 : 1;
        Set<Integer> paths = new HashSet<>(state.things.keySet());
        paths.addAll(planned.things.keySet());
        for (int p : paths) {
            Thing old = state.things.get(p);
            Thing now = planned.things.get(p);
            k += old == null ? (now == null ? 0 : 1) : (old.equals(now) ? 0 : 1);
        }
        for (int token = 1; token <= planned.tokens; token++) {
            Hold old = state.holds.get(token);
            Hold now = planned.holds.get(token);
            k += old == null ? (now == null ? 0 : 1) : (old.equals(now) ? 0 : 1);
        }
        int all = k == 0 ? 0 : k + 1 + k;
        if (failure == -1 || all <= failure) {
            writes += all;
            state = planned;
            return end(answer);
        }
        writes += failure;
        if (failure > k) {
            state = planned;
        }
        return end(0);
    }

    private void plan() {
        planned = state.copied();
    }

    public int put(int p, int body) {
        String path = text(p);
        boolean numbers = path != null && body >= 0 && body <= 999999;
        if (!opens(numbers, path)) {
            return refused(numbers);
        }
        Thing old = state.at(path);
        if (old != null && old.collection) {
            return end(405);
        }
        if (!state.collectionAbove(path)) {
            return end(409);
        }
        if (barred(path) || old == null && barred(above(path))) {
            return end(423);
        }
        if (old == null && state.things.size() == 13) {
            return end(507);
        }
        plan();
        List<Integer> properties = old == null ? List.of(0, 0, 0) : old.properties;
        planned.things.put(p, new Thing(false, body, ++planned.stamps, properties));
        return commit(old == null ? 201 : 204);
    }

    public int mkcol(int p) {
        String path = text(p);
        if (!opens(path != null, path)) {
            return refused(path != null);
        }
        if (state.at(path) != null) {
            return end(405);
        }
        if (!state.collectionAbove(path)) {
            return end(409);
        }
        if (barred(path) || barred(above(path))) {
            return end(423);
        }
        if (state.things.size() == 13) {
            return end(507);
        }
        plan();
        planned.things.put(p, new Thing(true, 0, ++planned.stamps, List.of(0, 0, 0)));
        return commit(201);
    }

    public int delete(int p) {
        String path = text(p);
        if (!opens(path != null, path)) {
            return refused(path != null);
        }
        if (p == 0) {
            return end(403);
        }
        if (state.at(path) == null) {
            return end(404);
        }
        if (barred(path) || barred(above(path))) {
            return end(423);
        }
        plan();
        List<Integer> listed = new ArrayList<>();
        boolean anyStays = remove(path, true, listed);
        listed.sort(null);
        multi = listed;
        return commit(anyStays ? 207 : 204);
    }

    /** Removes the thing at the path after all below it, unless it stays; says whether it stays. */
    private boolean remove(String path, boolean top, List<Integer> listed) {
        boolean stays = !top && (barred(path) || barred(above(path)));
        if (stays) {
            listed.add(number(path));
        }
        for (int n = 1; n <= 7 && path.length() < 4; n++) {
            if (state.at(path + n) != null) {
                stays |= remove(path + n, false, listed);
            }
        }
        if (!stays) {
            planned.things.remove(number(path));
        }
        return stays;
    }

    public int copy(int p, int q, boolean deep, boolean over) {
        return carry(p, q, deep, over, false);
    }

    public int move(int p, int q, boolean over) {
        return carry(p, q, true, over, true);
    }

    private int carry(int p, int q, boolean deep, boolean over, boolean moves) {
        String from = text(p);
        String to = text(q);
        boolean numbers = from != null && to != null;
        if (!opens(numbers, from)) {
            return refused(numbers);
        }
        if (from.startsWith(to) || to.startsWith(from)) {
            return end(403);
        }
        if (state.at(from) == null) {
            return end(404);
        }
        if (!state.collectionAbove(to)) {
            return end(409);
        }
        boolean old = state.at(to) != null;
        if (old && !over) {
            return end(412);
        }
        if (branchBarred(to) || moves && branchBarred(from)) {
            return end(423);
        }
        plan();
        planned.things.keySet().removeIf(r -> text(r).startsWith(to));
        TreeMap<Integer, Thing> made = new TreeMap<>();
        for (int r : state.things.keySet()) {
            String path = text(r);
            if (path.equals(from) || deep && below(path, from)) {
                String place = to + path.substring(from.length());
                if (place.length() > 4) {
                    return end(507);
                }
                made.put(number(place), state.things.get(r));
            }
        }
        if (moves) {
            planned.things.keySet().removeIf(r -> text(r).startsWith(from));
        } else if (planned.things.size() + made.size() > 13) {
            return end(507);
        }
        for (int place : made.keySet()) {
            Thing thing = made.get(place);
            int stamp = moves ? thing.stamp : ++planned.stamps;
            planned.things.put(place, new Thing(thing.collection, thing.body, stamp, thing.properties));
        }
        return commit(old ? 204 : 201);
    }

    public int patch(int p, int key, int value) {
        String path = text(p);
        boolean numbers = path != null && key >= 0 && key <= 2 && value >= 0 && value <= 999;
        if (!opens(numbers, path)) {
            return refused(numbers);
        }
        Thing old = state.at(path);
        if (old == null) {
            return end(404);
        }
        if (barred(path)) {
            return end(423);
        }
        plan();
        List<Integer> properties = new ArrayList<>(old.properties);
        properties.set(key, value);
        planned.things.put(p, new Thing(old.collection, old.body, old.stamp, properties));
        return commit(200);
    }

    public int lock(int p, boolean exclusive, boolean deep, int time) {
        String path = text(p);
        boolean numbers = path != null && time >= 1 && time <= 100;
        if (!opens(numbers, path)) {
            return refused(numbers);
        }
        boolean fresh = state.at(path) == null;
        if (fresh && !state.collectionAbove(path)) {
            return end(409);
        }
        if (fresh && barred(above(path))) {
            return end(423);
        }
        for (Hold hold : state.holds.values()) {
            boolean such = hold.covers(path) || deep && below(hold.root, path);
            if (such && (hold.exclusive || exclusive)) {
                return end(423);
            }
        }
        if (state.holds.size() == 6 || fresh && state.things.size() == 13) {
            return end(507);
        }
        plan();
        planned.holds.put(++planned.tokens, new Hold(path, exclusive, deep, planned.clock + time));
        if (fresh) {
            planned.things.put(p, new Thing(false, 0, ++planned.stamps, List.of(0, 0, 0)));
        }
        return commit(fresh ? 201 : 200);
    }

    public int refresh(int p, int time) {
        String path = text(p);
        boolean numbers = path != null && time >= 1 && time <= 100;
        if (!opens(numbers, path)) {
            return refused(numbers);
        }
        Set<Integer> tokens = submitted();
        for (int token : state.holds.keySet()) {
            Hold hold = state.holds.get(token);
            if (hold.covers(path) && tokens.contains(token)) {
                plan();
                planned.holds.put(token, new Hold(hold.root, hold.exclusive, hold.deep, state.clock + time));
                return commit(200);
            }
        }
        return end(412);
    }

    public int unlock(int p, int token) {
        String path = text(p);
        if (!opens(path != null, path)) {
            return refused(path != null);
        }
        Hold hold = state.holds.get(token);
        if (hold == null || !hold.covers(path)) {
            return end(409);
        }
        plan();
        planned.holds.remove(token);
        return commit(204);
    }

    public int tick(int n) {
        boolean numbers = n >= 0 && n <= 1000;
        if (!opens(numbers, "")) {
            return refused(numbers);
        }
        plan();
        planned.clock += n;
        return commit(200);
    }

    public int kind(int p) {
        Thing thing = state.things.get(p);
        return thing == null ? 0 : thing.collection ? 2 : 1;
    }

    public int body(int p) {
        return state.things.containsKey(p) ? state.things.get(p).body : -1;
    }

    public int stamp(int p) {
        return state.things.containsKey(p) ? state.things.get(p).stamp : -1;
    }

    public int property(int p, int key) {
        boolean there = state.things.containsKey(p) && key >= 0 && key <= 2;
        return there ? state.things.get(p).properties.get(key) : -1;
    }

    public int covering(int p, int k) {
        String path = text(p);
        if (path == null) {
            return -1;
        }
        List<Integer> tokens = new ArrayList<>(state.holds.keySet());
        tokens.removeIf(token -> !state.holds.get(token).covers(path));
        return pick(tokens, k);
    }

    public long lockOf(int token) {
        Hold hold = state.holds.get(token);
        if (hold == null) {
            return -1;
        }
        return hold.end * 16384L + 4 * number(hold.root) + (hold.deep ? 2 : 0) + (hold.exclusive ? 1 : 0);
    }

    public int multi(int k) {
        return pick(multi, k);
    }

    public int writes() {
        return writes;
    }

    public int listing(int k) {
        List<Integer> paths = new ArrayList<>(state.things.keySet());
        paths.remove(0);
        return pick(paths, k);
    }

    private static int pick(List<Integer> numbers, int k) {
        if (k == -1) {
            return numbers.size();
        }
        return k >= 0 && k < numbers.size() ? numbers.get(k) : -1;
    }
}
