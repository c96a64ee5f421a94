/**
 * A tree of collections and documents that is written to under locks, on a disk whose power may
 * fail at any write. What each public method must do stands in the document, promise by promise.
 */
public final class LockedTree {
    private static final int MAX_PATH = 4095;
    private static final int MAX_RESOURCES = 12;
    private static final int MAX_LOCKS = 6;
    private static final int MAX_HEADER = 24;
    private static final int MAX_DIGITS = 4;
    private static final int MAX_BODY = 999999;
    private static final int MAX_VALUE = 999;
    private static final int MAX_TIME = 100;
    private static final int MAX_TICK = 1000;
    private static final int MAX_FAILURE = 100;
    private static final int PROPERTIES = 3;

    private static final int DOCUMENT = 1;
    private static final int COLLECTION = 2;

    private static final int INTERRUPTED = 0;
    private static final int DONE = 200;
    private static final int CREATED = 201;
    private static final int NO_CONTENT = 204;
    private static final int MULTI_STATUS = 207;
    private static final int BAD_REQUEST = 400;
    private static final int FORBIDDEN = 403;
    private static final int NOT_FOUND = 404;
    private static final int NOT_ALLOWED = 405;
    private static final int CONFLICT = 409;
    private static final int PRECONDITION_FAILED = 412;
    private static final int BARRED = 423;
    private static final int NO_ROOM = 507;

    private static final int NO_REFUSAL = -1;
    private static final int NO_FAILURE = -1;
    private static final int NOTHING = -1;
    private static final int HOW_MANY = -1;
    private static final int REQUEST_PATH = -1;

    /** What is on the disk. A request only reads it. */
    private Store now;
    /** What a request would bring home; it takes the place of now when the request is committed. */
    private Store next;
    private final Header header;
    private int failure;
    private int writesMade;
    private final int[] multiPaths;
    private int multiCount;

    public LockedTree() {
        now = new Store();
        next = new Store();
        header = new Header();
        failure = NO_FAILURE;
        writesMade = 0;
        multiPaths = new int[MAX_RESOURCES];
        multiCount = 0;
    }

    public boolean head(char c) {
        return header.add(c);
    }

    public boolean fail(int n) {
        if (n != NO_FAILURE && !isFrom(n, 0, MAX_FAILURE)) {
            return false;
        }
        failure = n;
        return true;
    }

    public int put(int p, int body) {
        int refusal = firstRefusal(p, Paths.isPath(p) && isFrom(body, 0, MAX_BODY));
        if (refusal == NO_REFUSAL) {
            refusal = putRefusal(p);
        }
        if (refusal != NO_REFUSAL) {
            return closeRequest(refusal);
        }
        next.takeFrom(now);
        Resource document = next.findOrMake(p, DOCUMENT);
        if (document != null) {
            document.body = body;
            document.stamp = next.takeStamp();
        }
        return carryOut(now.has(p) ? NO_CONTENT : CREATED);
    }

    public int mkcol(int p) {
        int refusal = firstRefusal(p, Paths.isPath(p));
        if (refusal == NO_REFUSAL) {
            refusal = mkcolRefusal(p);
        }
        if (refusal != NO_REFUSAL) {
            return closeRequest(refusal);
        }
        next.takeFrom(now);
        Resource collection = next.findOrMake(p, COLLECTION);
        if (collection != null) {
            collection.stamp = next.takeStamp();
        }
        return carryOut(CREATED);
    }

    public int delete(int p) {
        int refusal = firstRefusal(p, Paths.isPath(p));
        if (refusal == NO_REFUSAL) {
            refusal = deleteRefusal(p);
        }
        if (refusal != NO_REFUSAL) {
            return closeRequest(refusal);
        }
        listBarredBelow(p);
        next.takeFrom(now);
        for (int i = 0; i < now.resourceCount; i++) {
            int path = now.resources[i].path;
            if (Paths.isWithin(path, p) && !leadsToListed(path)) {
                next.removeTree(path);
            }
        }
        return carryOut(multiCount == 0 ? NO_CONTENT : MULTI_STATUS);
    }

    public int copy(int p, int q, boolean deep, boolean over) {
        int refusal = firstRefusal(p, Paths.isPath(p) && Paths.isPath(q));
        if (refusal == NO_REFUSAL) {
            refusal = targetRefusal(p, q, over);
        }
        if (refusal == NO_REFUSAL) {
            refusal = copyRefusal(p, q, deep);
        }
        if (refusal != NO_REFUSAL) {
            return closeRequest(refusal);
        }
        next.takeFrom(now);
        next.removeTree(q);
        for (int i = 0; i < now.resourceCount; i++) {
            Resource source = now.resources[i];
            if (isTaken(source.path, p, deep)) {
                next.addLike(source, Paths.answering(source.path, p, q), next.takeStamp());
            }
        }
        return carryOut(now.has(q) ? NO_CONTENT : CREATED);
    }

    public int move(int p, int q, boolean over) {
        int refusal = firstRefusal(p, Paths.isPath(p) && Paths.isPath(q));
        if (refusal == NO_REFUSAL) {
            refusal = targetRefusal(p, q, over);
        }
        if (refusal == NO_REFUSAL) {
            refusal = moveRefusal(p, q);
        }
        if (refusal != NO_REFUSAL) {
            return closeRequest(refusal);
        }
        next.takeFrom(now);
        next.removeTree(q);
        next.removeTree(p);
        for (int i = 0; i < now.resourceCount; i++) {
            Resource source = now.resources[i];
            if (Paths.isWithin(source.path, p)) {
                next.addLike(source, Paths.answering(source.path, p, q), source.stamp);
            }
        }
        return carryOut(now.has(q) ? NO_CONTENT : CREATED);
    }

    public int patch(int p, int key, int value) {
        boolean numbersAsSaid = Paths.isPath(p) && isKey(key) && isFrom(value, 0, MAX_VALUE);
        int refusal = firstRefusal(p, numbersAsSaid);
        if (refusal == NO_REFUSAL) {
            refusal = patchRefusal(p);
        }
        if (refusal != NO_REFUSAL) {
            return closeRequest(refusal);
        }
        next.takeFrom(now);
        Resource resource = next.find(p);
        if (resource != null) {
            resource.properties[key] = value;
        }
        return carryOut(DONE);
    }

    public int lock(int p, boolean exclusive, boolean deep, int time) {
        int refusal = firstRefusal(p, Paths.isPath(p) && isFrom(time, 1, MAX_TIME));
        if (refusal == NO_REFUSAL) {
            refusal = lockRefusal(p, exclusive, deep);
        }
        if (refusal != NO_REFUSAL) {
            return closeRequest(refusal);
        }
        next.takeFrom(now);
        next.addLock(p, exclusive, deep, time);
        if (now.has(p)) {
            return carryOut(DONE);
        }
        Resource document = next.findOrMake(p, DOCUMENT);
        if (document != null) {
            document.stamp = next.takeStamp();
        }
        return carryOut(CREATED);
    }

    public int refresh(int p, int time) {
        int refusal = firstRefusal(p, Paths.isPath(p) && isFrom(time, 1, MAX_TIME));
        if (refusal != NO_REFUSAL) {
            return closeRequest(refusal);
        }
        next.takeFrom(now);
        Lock submitted = firstSubmitted(next, p);
        if (submitted == null) {
            return closeRequest(PRECONDITION_FAILED);
        }
        submitted.end = next.clock + time;
        return carryOut(DONE);
    }

    public int unlock(int p, int token) {
        int refusal = firstRefusal(p, Paths.isPath(p));
        if (refusal != NO_REFUSAL) {
            return closeRequest(refusal);
        }
        next.takeFrom(now);
        Lock taken = next.findLock(token);
        if (taken == null || !taken.covers(p)) {
            return closeRequest(CONFLICT);
        }
        // A lock whose end is reached goes when the request is carried out.
        taken.end = next.clock;
        return carryOut(NO_CONTENT);
    }

    public int tick(int n) {
        int refusal = firstRefusal(0, isFrom(n, 0, MAX_TICK));
        if (refusal != NO_REFUSAL) {
            return closeRequest(refusal);
        }
        next.takeFrom(now);
        next.clock += n;
        return carryOut(DONE);
    }

    public int kind(int p) {
        Resource resource = now.find(p);
        return resource == null ? 0 : resource.kind;
    }

    public int body(int p) {
        Resource resource = now.find(p);
        return resource == null ? NOTHING : resource.body;
    }

    public int stamp(int p) {
        Resource resource = now.find(p);
        return resource == null ? NOTHING : resource.stamp;
    }

    public int property(int p, int key) {
        Resource resource = now.find(p);
        return resource == null || !isKey(key) ? NOTHING : resource.properties[key];
    }

    public int covering(int p, int k) {
        if (!Paths.isPath(p)) {
            return NOTHING;
        }
        int count = 0;
        for (int i = 0; i < now.lockCount; i++) {
            if (now.locks[i].covers(p)) {
                if (count == k) {
                    return now.locks[i].token;
                }
                count++;
            }
        }
        return k == HOW_MANY ? count : NOTHING;
    }

    public long lockOf(int token) {
        Lock lock = now.findLock(token);
        if (lock == null) {
            return NOTHING;
        }
        return lock.end * 16384L + 4L * lock.root + (lock.deep ? 2 : 0) + (lock.exclusive ? 1 : 0);
    }

    public int multi(int k) {
        if (k == HOW_MANY) {
            return multiCount;
        }
        return isFrom(k, 0, multiCount - 1) ? multiPaths[k] : NOTHING;
    }

    public int writes() {
        return writesMade;
    }

    public int listing(int k) {
        // The root is the least path and so always the first of the resources.
        int count = now.resourceCount - 1;
        if (k == HOW_MANY) {
            return count;
        }
        return isFrom(k, 0, count - 1) ? now.resources[k + 1].path : NOTHING;
    }

    private static boolean isFrom(int number, int least, int greatest) {
        return number >= least && number <= greatest;
    }

    private static boolean isKey(int key) {
        return isFrom(key, 0, PROPERTIES - 1);
    }

    /** The statuses that come before all others, whatever the request. */
    private int firstRefusal(int p, boolean numbersAsSaid) {
        if (!numbersAsSaid || !header.isWellFormed()) {
            return BAD_REQUEST;
        }
        return header.holds(now, p) ? NO_REFUSAL : PRECONDITION_FAILED;
    }

    private int putRefusal(int p) {
        if (now.hasCollection(p)) {
            return NOT_ALLOWED;
        }
        if (!now.hasCollection(Paths.parentOf(p))) {
            return CONFLICT;
        }
        boolean isNew = !now.has(p);
        if (isBarred(p) || isNew && isBarred(Paths.parentOf(p))) {
            return BARRED;
        }
        return isNew && now.isFull() ? NO_ROOM : NO_REFUSAL;
    }

    private int mkcolRefusal(int p) {
        if (now.has(p)) {
            return NOT_ALLOWED;
        }
        if (!now.hasCollection(Paths.parentOf(p))) {
            return CONFLICT;
        }
        if (isBarred(p) || isBarred(Paths.parentOf(p))) {
            return BARRED;
        }
        return now.isFull() ? NO_ROOM : NO_REFUSAL;
    }

    private int deleteRefusal(int p) {
        if (p == 0) {
            return FORBIDDEN;
        }
        if (!now.has(p)) {
            return NOT_FOUND;
        }
        return isBarred(p) || isBarred(Paths.parentOf(p)) ? BARRED : NO_REFUSAL;
    }

    /** What copy and move refuse alike; that p or q is the root is refused as one is below the other. */
    private int targetRefusal(int p, int q, boolean over) {
        if (q == 0 || Paths.isWithin(q, p) || Paths.isWithin(p, q)) {
            return FORBIDDEN;
        }
        if (!now.has(p)) {
            return NOT_FOUND;
        }
        if (!now.hasCollection(Paths.parentOf(q))) {
            return CONFLICT;
        }
        return now.has(q) && !over ? PRECONDITION_FAILED : NO_REFUSAL;
    }

    private int copyRefusal(int p, int q, boolean deep) {
        if (isTreeBarred(q)) {
            return BARRED;
        }
        if (!hasPlaces(p, q, deep)) {
            return NO_ROOM;
        }
        int taken = deep ? now.countWithin(p) : 1;
        int others = now.resourceCount - 1 - now.countWithin(q);
        return others + taken > MAX_RESOURCES ? NO_ROOM : NO_REFUSAL;
    }

    private int moveRefusal(int p, int q) {
        if (isTreeBarred(q) || isTreeBarred(p)) {
            return BARRED;
        }
        return hasPlaces(p, q, true) ? NO_REFUSAL : NO_ROOM;
    }

    private int patchRefusal(int p) {
        if (!now.has(p)) {
            return NOT_FOUND;
        }
        return isBarred(p) ? BARRED : NO_REFUSAL;
    }

    private int lockRefusal(int p, boolean exclusive, boolean deep) {
        boolean isNew = !now.has(p);
        if (isNew && !now.hasCollection(Paths.parentOf(p))) {
            return CONFLICT;
        }
        if (isNew && isBarred(Paths.parentOf(p)) || isLockInTheWay(p, exclusive, deep)) {
            return BARRED;
        }
        return now.lockCount >= MAX_LOCKS || isNew && now.isFull() ? NO_ROOM : NO_REFUSAL;
    }

    private boolean isLockInTheWay(int p, boolean exclusive, boolean deep) {
        for (int i = 0; i < now.lockCount; i++) {
            Lock other = now.locks[i];
            boolean meets = other.covers(p) || deep && Paths.isBelow(other.root, p);
            if (meets && (exclusive || other.exclusive)) {
                return true;
            }
        }
        return false;
    }

    private boolean isBarred(int path) {
        boolean covered = false;
        for (int i = 0; i < now.lockCount; i++) {
            covered = covered || now.locks[i].covers(path);
        }
        return covered && firstSubmitted(now, path) == null;
    }

    /** Of the locks that cover the path and whose tokens are submitted, the one with the least token. */
    private Lock firstSubmitted(Store store, int path) {
        for (int i = 0; i < store.lockCount; i++) {
            Lock lock = store.locks[i];
            if (lock.covers(path) && header.submits(lock.token)) {
                return lock;
            }
        }
        return null;
    }

    private boolean isTreeBarred(int root) {
        if (isBarred(Paths.parentOf(root)) || isBarred(root)) {
            return true;
        }
        for (int i = 0; i < now.resourceCount; i++) {
            int path = now.resources[i].path;
            if (Paths.isBelow(path, root) && isBarred(path)) {
                return true;
            }
        }
        return false;
    }

    private static boolean isTaken(int path, int p, boolean deep) {
        return path == p || deep && Paths.isBelow(path, p);
    }

    private boolean hasPlaces(int p, int q, boolean deep) {
        for (int i = 0; i < now.resourceCount; i++) {
            int path = now.resources[i].path;
            if (isTaken(path, p, deep) && !Paths.isPath(Paths.answering(path, p, q))) {
                return false;
            }
        }
        return true;
    }

    private void listBarredBelow(int p) {
        multiCount = 0;
        for (int i = 0; i < now.resourceCount; i++) {
            int path = now.resources[i].path;
            boolean stays = Paths.isBelow(path, p)
                    && (isBarred(path) || isBarred(Paths.parentOf(path)));
            if (stays && multiCount < multiPaths.length) {
                multiPaths[multiCount] = path;
                multiCount++;
            }
        }
    }

    private boolean leadsToListed(int path) {
        for (int i = 0; i < multiCount; i++) {
            if (Paths.isWithin(multiPaths[i], path)) {
                return true;
            }
        }
        return false;
    }

    /** Writes what stands in next to the disk, as far as the power lasts. */
    private int carryOut(int status) {
        next.dropDeadLocks();
        int changes = next.changesSince(now);
        int needed = changes == 0 ? 0 : 2 * changes + 1;
        boolean interrupted = failure != NO_FAILURE && needed > failure;
        writesMade += interrupted ? failure : needed;
        if (!interrupted || failure > changes) {
            Store before = now;
            now = next;
            next = before;
        }
        return closeRequest(interrupted ? INTERRUPTED : status);
    }

    /** The header, the failure and the multi list are those of one request alone. */
    private int closeRequest(int answer) {
        header.clear();
        failure = NO_FAILURE;
        if (answer != MULTI_STATUS) {
            multiCount = 0;
        }
        return answer;
    }

    /** Paths as numbers: each name is a digit 1 .. 7 in base 8. */
    private static final class Paths {
        static boolean isPath(int p) {
            if (p < 0 || p > MAX_PATH) {
                return false;
            }
            for (int rest = p; rest > 0; rest /= 8) {
                if (rest % 8 == 0) {
                    return false;
                }
            }
            return true;
        }

        static int parentOf(int path) {
            return path / 8;
        }

        static boolean isBelow(int path, int above) {
            for (int rest = path; rest > 0; rest /= 8) {
                if (rest / 8 == above) {
                    return true;
                }
            }
            return false;
        }

        static boolean isWithin(int path, int top) {
            return path == top || isBelow(path, top);
        }

        /** Where a path that is from or below it comes to stand when from comes to stand at to. */
        static int answering(int path, int from, int to) {
            int names = 0;
            int span = 1;
            for (int rest = path; rest > 0 && rest != from; rest /= 8) {
                names += rest % 8 * span;
                span *= 8;
            }
            return to * span + names;
        }
    }

    private static final class Resource {
        int path;
        int kind;
        int body;
        int stamp;
        final int[] properties = new int[PROPERTIES];

        void makeNew(int newPath, int newKind) {
            path = newPath;
            kind = newKind;
            body = 0;
            stamp = 0;
            for (int key = 0; key < PROPERTIES; key++) {
                properties[key] = 0;
            }
        }

        void takeFrom(Resource other) {
            path = other.path;
            kind = other.kind;
            body = other.body;
            stamp = other.stamp;
            for (int key = 0; key < PROPERTIES; key++) {
                properties[key] = other.properties[key];
            }
        }

        boolean isLike(Resource other) {
            if (kind != other.kind || body != other.body || stamp != other.stamp) {
                return false;
            }
            for (int key = 0; key < PROPERTIES; key++) {
                if (properties[key] != other.properties[key]) {
                    return false;
                }
            }
            return true;
        }
    }

    private static final class Lock {
        int token;
        int root;
        int end;
        boolean exclusive;
        boolean deep;

        boolean covers(int path) {
            return path == root || deep && Paths.isBelow(path, root);
        }

        void takeFrom(Lock other) {
            token = other.token;
            root = other.root;
            end = other.end;
            exclusive = other.exclusive;
            deep = other.deep;
        }
    }

    /** All that a power failure can spare or spoil: resources by path, locks by token, the clock. */
    private static final class Store {
        final Resource[] resources = new Resource[MAX_RESOURCES + 1];
        int resourceCount;
        final Lock[] locks = new Lock[MAX_LOCKS];
        int lockCount;
        int clock;
        int nextStamp;
        int nextToken;

        Store() {
            for (int i = 0; i < resources.length; i++) {
                resources[i] = new Resource();
            }
            for (int i = 0; i < locks.length; i++) {
                locks[i] = new Lock();
            }
            resources[0].kind = COLLECTION;
            resourceCount = 1;
            nextStamp = 1;
            nextToken = 1;
        }

        void takeFrom(Store other) {
            for (int i = 0; i < other.resourceCount; i++) {
                resources[i].takeFrom(other.resources[i]);
            }
            resourceCount = other.resourceCount;
            for (int i = 0; i < other.lockCount; i++) {
                locks[i].takeFrom(other.locks[i]);
            }
            lockCount = other.lockCount;
            clock = other.clock;
            nextStamp = other.nextStamp;
            nextToken = other.nextToken;
        }

        int takeStamp() {
            nextStamp++;
            return nextStamp - 1;
        }

        Resource find(int path) {
            for (int i = 0; i < resourceCount; i++) {
                if (resources[i].path == path) {
                    return resources[i];
                }
            }
            return null;
        }

        boolean has(int path) {
            return find(path) != null;
        }

        boolean hasCollection(int path) {
            Resource resource = find(path);
            return resource != null && resource.kind == COLLECTION;
        }

        boolean isFull() {
            return resourceCount >= resources.length;
        }

        int countWithin(int top) {
            int count = 0;
            for (int i = 0; i < resourceCount; i++) {
                if (Paths.isWithin(resources[i].path, top)) {
                    count++;
                }
            }
            return count;
        }

        /** The resource at the path, or a new one of the kind; null when there is no room for it. */
        Resource findOrMake(int path, int kind) {
            Resource found = find(path);
            if (found != null || isFull()) {
                return found;
            }
            Resource made = resources[resourceCount];
            int place = resourceCount;
            for (; place > 0 && resources[place - 1].path > path; place--) {
                resources[place] = resources[place - 1];
            }
            resources[place] = made;
            resourceCount++;
            made.makeNew(path, kind);
            return made;
        }

        void addLike(Resource source, int path, int stamp) {
            Resource made = findOrMake(path, source.kind);
            if (made != null) {
                made.takeFrom(source);
                made.path = path;
                made.stamp = stamp;
            }
        }

        void removeTree(int top) {
            int kept = 0;
            for (int i = 0; i < resourceCount; i++) {
                Resource resource = resources[i];
                if (!Paths.isWithin(resource.path, top)) {
                    // What goes changes places with what stays, so that no row is lost.
                    resources[i] = resources[kept];
                    resources[kept] = resource;
                    kept++;
                }
            }
            resourceCount = kept;
        }

        Lock findLock(int token) {
            for (int i = 0; i < lockCount; i++) {
                if (locks[i].token == token) {
                    return locks[i];
                }
            }
            return null;
        }

        void addLock(int root, boolean exclusive, boolean deep, int time) {
            if (lockCount >= locks.length) {
                return;
            }
            Lock made = locks[lockCount];
            made.token = nextToken;
            made.root = root;
            made.end = clock + time;
            made.exclusive = exclusive;
            made.deep = deep;
            lockCount++;
            nextToken++;
        }

        void dropDeadLocks() {
            int kept = 0;
            for (int i = 0; i < lockCount; i++) {
                if (locks[i].end > clock && has(locks[i].root)) {
                    locks[kept].takeFrom(locks[i]);
                    kept++;
                }
            }
            lockCount = kept;
        }

        int changesSince(Store before) {
            int changes = clock == before.clock ? 0 : 1;
            for (int i = 0; i < resourceCount; i++) {
                Resource old = before.find(resources[i].path);
                if (old == null || !resources[i].isLike(old)) {
                    changes++;
                }
            }
            for (int i = 0; i < before.resourceCount; i++) {
                if (!has(before.resources[i].path)) {
                    changes++;
                }
            }
            return changes + lockChangesSince(before);
        }

        private int lockChangesSince(Store before) {
            int changes = 0;
            for (int i = 0; i < lockCount; i++) {
                Lock old = before.findLock(locks[i].token);
                if (old == null || old.end != locks[i].end) {
                    changes++;
                }
            }
            for (int i = 0; i < before.lockCount; i++) {
                if (findLock(before.locks[i].token) == null) {
                    changes++;
                }
            }
            return changes;
        }
    }

    private static final class Condition {
        int list;
        int path;
        boolean aboutLock;
        boolean negated;
        int number;

        boolean holds(Store store, int requestPath) {
            int about = path == REQUEST_PATH ? requestPath : path;
            boolean isSo = aboutLock ? isCovered(store, about) : isStamped(store, about);
            return isSo != negated;
        }

        private boolean isCovered(Store store, int about) {
            Lock lock = store.findLock(number);
            return lock != null && lock.covers(about);
        }

        private boolean isStamped(Store store, int about) {
            Resource resource = store.find(about);
            return resource != null && resource.stamp == number;
        }
    }

    /** The header, read character by character, so that no request has to read it again. */
    private static final class Header {
        private static final int EMPTY = 0;
        private static final int SLASH = 1;
        private static final int GROUP_NUMBER = 2;
        private static final int LIST_OPEN = 3;
        private static final int NEGATION = 4;
        private static final int LETTER = 5;
        private static final int NUMBER = 6;
        private static final int LIST_CLOSED = 7;
        private static final int BROKEN = 8;

        private final Condition[] conditions = new Condition[MAX_HEADER / 2];
        private int conditionCount;
        private int listCount;
        private int length;
        private int state;
        private int groupPath;
        private int number;
        private int digits;

        Header() {
            for (int i = 0; i < conditions.length; i++) {
                conditions[i] = new Condition();
            }
            groupPath = REQUEST_PATH;
        }

        void clear() {
            conditionCount = 0;
            listCount = 0;
            length = 0;
            state = EMPTY;
            groupPath = REQUEST_PATH;
        }

        boolean add(char c) {
            if (length >= MAX_HEADER || !isNamed(c)) {
                return false;
            }
            length++;
            state = stateAfter(c);
            return true;
        }

        boolean isWellFormed() {
            return state == EMPTY || state == LIST_CLOSED;
        }

        boolean holds(Store store, int requestPath) {
            boolean listHolds = true;
            int list = 1;
            for (int i = 0; i < conditionCount; i++) {
                if (conditions[i].list != list) {
                    if (listHolds) {
                        return true;
                    }
                    list = conditions[i].list;
                    listHolds = true;
                }
                listHolds = listHolds && conditions[i].holds(store, requestPath);
            }
            return listHolds;
        }

        boolean submits(int token) {
            for (int i = 0; i < conditionCount; i++) {
                if (conditions[i].aboutLock && conditions[i].number == token) {
                    return true;
                }
            }
            return false;
        }

        private static boolean isDigit(char c) {
            return c >= '0' && c <= '9';
        }

        private static boolean isNamed(char c) {
            return isDigit(c) || c == '(' || c == ')' || c == '/' || c == 't' || c == 'e' || c == '!';
        }

        private int stateAfter(char c) {
            if (isDigit(c)) {
                return afterDigit(c - '0');
            }
            switch (c) {
                case '/':
                    return afterSlash();
                case '(':
                    return afterOpening();
                case ')':
                    return state == NUMBER ? LIST_CLOSED : BROKEN;
                case '!':
                    return state == LIST_OPEN || state == NUMBER ? NEGATION : BROKEN;
                default:
                    return afterLetter(c == 't');
            }
        }

        private int afterDigit(int digit) {
            if (state == SLASH || state == LETTER) {
                number = 0;
                digits = 0;
            } else if (state != GROUP_NUMBER && state != NUMBER) {
                return BROKEN;
            }
            if (digits >= MAX_DIGITS) {
                return BROKEN;
            }
            number = number * 10 + digit;
            digits++;
            if (state == SLASH || state == GROUP_NUMBER) {
                return GROUP_NUMBER;
            }
            if (conditionCount > 0) {
                conditions[conditionCount - 1].number = number;
            }
            return NUMBER;
        }

        private int afterSlash() {
            boolean endsGroup = state == LIST_CLOSED && groupPath != REQUEST_PATH;
            return state == EMPTY || endsGroup ? SLASH : BROKEN;
        }

        private int afterOpening() {
            if (state == GROUP_NUMBER && Paths.isPath(number)) {
                groupPath = number;
            } else if (state != EMPTY && state != LIST_CLOSED) {
                return BROKEN;
            }
            listCount++;
            return LIST_OPEN;
        }

        private int afterLetter(boolean aboutLock) {
            if (state != LIST_OPEN && state != NUMBER && state != NEGATION) {
                return BROKEN;
            }
            if (conditionCount >= conditions.length) {
                return BROKEN;
            }
            Condition begun = conditions[conditionCount];
            conditionCount++;
            begun.list = listCount;
            begun.path = groupPath;
            begun.aboutLock = aboutLock;
            begun.negated = state == NEGATION;
            begun.number = 0;
            return LETTER;
        }
    }
}
