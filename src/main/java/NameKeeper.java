import java.util.Arrays;

/** Names looked up from a memory of entries; ../shared/DOC.md says what each call promises. */
public final class NameKeeper {
    public static final int NONE = -1;
    public static final int NOTHING = -2;
    public static final int BLOCKED = -3;

    private static final int MOST_BYTES = 400;
    private static final int BYTES_FED = 20;
    private static final int MOST_VOLUMES = 3;
    private static final int MOST_TOLD = 40;
    private static final int MOST_NODES = 60;
    private static final int MOST_DEPTH = 8;
    private static final int MOST_LETTERS = 4;
    private static final int MOST_STEPS = 12;
    /* Each NODE has one ENTRY at most, and only one ABSENCE outlasts a MEMORY that can't be trimmed; one more is on its way. */
    private static final int MOST_ENTRIES = 64;
    private static final int LEAST_ROOM = 4;
    private static final int MOST_ROOM = 40;
    private static final int ROOMS = MOST_ROOM - LEAST_ROOM + 1;
    private static final int MOST_HANDLES = 6;
    private static final int MOST_WALKERS = 4;
    /* The ROOT where it begins, and two for each STEP that goes over a MOUNT. */
    private static final int MOST_WAY = 1 + 2 * MOST_STEPS;
    private static final int LAST_RESTART = 3;
    private static final int MOST_UNDONE = 20;
    private static final int MOST_PATHS = 12;
    private static final int MOST_TRIMMED = 100;
    private static final int MOST_CHANCES = 40;

    /* A STEP is a NAME, packed into a number above 0, or one of these. */
    private static final int NO_STEP = 0;
    private static final int STAY = -1;
    private static final int UP = -2;
    private static final int BITS_A_LETTER = 5;

    private static final int REMOVED = 0;
    private static final int FILE = 1;
    private static final int FOLDER = 2;

    private static final int UNUSED = 0;
    private static final int KEPT = 1;
    private static final int GONE = 2;

    private static final int END = -1;
    private static final int NEW_LINE = 10;
    private static final int BLANK = 32;

    private static final int UNEXPECTED = 1;
    private static final int TWICE = 3;
    private static final int TOO_MANY = 5;

    private static final int REFUSED_TAPE = 0;
    private static final int REFUSED_TREES = 1;
    private static final int REFUSED_LOOK = 2;
    private static final int REFUSED_CHANGE = 3;
    private static final int REFUSED_HANDLE = 4;
    private static final int REFUSED_WALKER = 5;
    private static final int REFUSED_KINDS = 6;

    private static final int GOES_ON = 0;
    private static final int FOUND = 1;
    private static final int OUTCOMES = 4;

    private final Tape tape;
    private final Reader reader;
    private final World world;
    private final Memory trial;
    private final History history;
    private final Trace traced;
    private final Route first;
    private final Route second;
    private final Route[] told;
    private final Route longWay;
    private final int[] written;
    private int writtenLength;
    private final int[] refused;
    private final int[] outcome;
    private boolean anyOutcome;
    private long draws;

    public NameKeeper() {
        Nodes nodes = new Nodes();
        tape = new Tape();
        reader = new Reader();
        world = new World(nodes, new Memory(nodes));
        trial = new Memory(nodes);
        history = new History();
        traced = new Trace(new Memory(nodes), new Memory(nodes));
        first = new Route(MOST_STEPS);
        second = new Route(MOST_STEPS);
        told = new Route[MOST_PATHS];
        told[0] = first;
        told[1] = second;
        for (int k = 2; k < told.length; k++) {
            told[k] = new Route(MOST_STEPS);
        }
        longWay = new Route(MOST_NODES);
        written = new int[MOST_NODES * (MOST_LETTERS + 1)];
        refused = new int[REFUSED_KINDS];
        outcome = new int[OUTCOMES];
        draws = 1;
    }

    // ---- the tape and the trees

    public int feed(int a, int b, int c, int d, int e) {
        if (!tape.hasSpace(BYTES_FED)) {
            return refuse(REFUSED_TAPE);
        }
        tape.addWord(a);
        tape.addWord(b);
        tape.addWord(c);
        tape.addWord(d);
        tape.addWord(e);
        return tape.length;
    }

    public boolean end(int n) {
        return tape.cut(n) || refuseFlatly(REFUSED_TAPE);
    }

    public int trees() {
        boolean sound = reader.readTrees(tape);
        tape.clear();
        if (!sound) {
            return refuse(REFUSED_TREES);
        }
        world.startWith(reader.draft);
        history.forget();
        traced.forget();
        anyOutcome = false;
        return world.nodes.volumes;
    }

    public int fault(int what) {
        switch (what) {
            case 0: return reader.fault;
            case 1: return reader.place;
            default: return NONE;
        }
    }

    // ---- what there is

    public int has(int what) {
        Memory memory = world.memory;
        switch (what) {
            case 0: return world.nodes.volumes;
            case 1: return world.nodes.howMany();
            case 2: return memory.howMany();
            case 3: return memory.absences();
            case 4: return memory.freeOnes();
            case 5: return memory.limit;
            case 6: return memory.tick;
            case 7: return memory.loaded;
            case 8: return memory.trimmed;
            case 9: return world.handlesOpen();
            case 10: return world.walkersUnderWay();
            case 11: return memory.mountedBits();
            case 12: return traced.length;
            case 13: return traced.seen;
            case 14: return history.length;
            case 15: return memory.goneOnes();
            default: return NONE;
        }
    }

    public int node(int node, int what) {
        return world.nodes.tell(node, what);
    }

    public int letter(boolean entry, int which, int k) {
        boolean there = entry ? world.memory.isEntry(which) : world.nodes.exists(which);
        if (!there || k < 0 || k >= MOST_LETTERS) {
            return NONE;
        }
        return letterOf(entry ? world.memory.nameOf(which) : world.nodes.nameOf(which), k);
    }

    public int entry(int entry, int what) {
        return world.memory.tell(entry, what);
    }

    public int child(int parent) {
        int name = nameBetween(tape, 0, tape.length);
        tape.clear();
        return name == NO_STEP ? NONE : world.memory.find(parent, name);
    }

    public int walker(int walker, int what) {
        Walker w = world.walkerAt(walker);
        return w == null ? NONE : w.tell(what);
    }

    public int handle(int handle) {
        return world.handleAt(handle);
    }

    // ---- what a path comes to

    public int where() {
        if (!takePaths(1)) {
            return NONE;
        }
        int at = tryOut(first);
        return at < 0 ? at : trial.nodeOf(at);
    }

    public int needs() {
        if (!takePaths(1)) {
            return NONE;
        }
        tryOut(first);
        return trial.loaded - world.memory.loaded;
    }

    public int victim(int k) {
        if (!hasTrees() || k < NONE) {
            return NONE;
        }
        trial.copyFrom(world.memory);
        int gone = 0;
        for (int turn = 0; turn < MOST_ENTRIES; turn++) {
            int next = trial.longestUnused(NONE);
            if (next == NONE) {
                break;
            }
            if (gone == k) {
                return next;
            }
            trial.drop(next);
            gone++;
        }
        return k == NONE ? gone : NONE;
    }

    public int path(int handle) {
        int entry = world.handleAt(handle);
        if (entry == NONE) {
            return NONE;
        }
        writtenLength = 0;
        if (!world.memory.isGone(entry)) {
            world.routeTo(world.memory.nodeOf(entry), longWay);
            writeRoute(longWay);
        }
        return writtenLength;
    }

    public int octet(int k) {
        return k >= 0 && k < writtenLength && k < written.length ? written[k] : NONE;
    }

    // ---- acts

    public int look() {
        if (!takePaths(1)) {
            return refuse(REFUSED_LOOK);
        }
        history.keep(world);
        return world.memory.walk(first, first.length);
    }

    public int make(boolean folder) {
        if (!takePaths(1) || world.nodes.isFull()) {
            return refuse(REFUSED_CHANGE);
        }
        history.keep(world);
        return orRefuse(world.makeAt(first, folder), REFUSED_CHANGE);
    }

    public int remove() {
        if (!takePaths(1)) {
            return refuse(REFUSED_CHANGE);
        }
        history.keep(world);
        return orRefuse(world.removeAt(first), REFUSED_CHANGE);
    }

    public int rename() {
        if (!takePaths(2)) {
            return refuse(REFUSED_CHANGE);
        }
        history.keep(world);
        return orRefuse(world.renameTo(first, second), REFUSED_CHANGE);
    }

    public int open() {
        if (!takePaths(1) || world.freeHandle() == NONE) {
            return refuse(REFUSED_HANDLE);
        }
        history.keep(world);
        return orRefuse(world.openAt(first), REFUSED_HANDLE);
    }

    public boolean close(int handle) {
        if (world.handleAt(handle) == NONE) {
            return refuseFlatly(REFUSED_HANDLE);
        }
        history.keep(world);
        world.closeHandle(handle);
        return true;
    }

    public int mount(int volume) {
        if (!takePaths(1) || !world.nodes.hasVolume(volume) || world.memory.isMounted(volume)) {
            return refuse(REFUSED_CHANGE);
        }
        history.keep(world);
        return orRefuse(world.mountAt(first, volume), REFUSED_CHANGE);
    }

    public int unmount(int volume) {
        if (volume == 0 || !world.memory.isMounted(volume) || world.memory.isBusy(volume)) {
            return refuse(REFUSED_CHANGE);
        }
        history.keep(world);
        return world.memory.dropVolume(volume);
    }

    public int trim(int n) {
        if (!hasTrees() || n < 1 || n > MOST_TRIMMED) {
            return refuse(REFUSED_LOOK);
        }
        history.keep(world);
        return world.memory.trimSome(n);
    }

    public boolean room(int room) {
        if (!hasTrees() || !isRoom(room) || room == world.memory.limit) {
            return refuseFlatly(REFUSED_LOOK);
        }
        history.keep(world);
        world.memory.limit = room;
        return true;
    }

    public int chance(int n) {
        if (!hasTrees() || n < 1 || n > MOST_CHANCES) {
            return refuse(REFUSED_LOOK);
        }
        history.keep(world);
        int before = world.memory.loaded;
        int choice = world.mountedNodes();
        for (int turn = 0; turn < n; turn++) {
            world.routeTo(world.mountedNode(drawOf(choice)), longWay);
            world.memory.walk(longWay, longWay.length);
        }
        return world.memory.loaded - before;
    }

    // ---- walkers

    public int begin() {
        if (!takePaths(1) || world.freeWalker() == NONE) {
            return refuse(REFUSED_WALKER);
        }
        history.keep(world);
        return world.beginWalk(first);
    }

    public int step(int walker) {
        Walker w = world.walkerAt(walker);
        if (w == null) {
            return refuse(REFUSED_WALKER);
        }
        history.keep(world);
        int at = w.goOn(world.memory);
        if (at >= 0 && !w.isThrough()) {
            return GOES_ON;
        }
        tellOutcome(w, at);
        w.stop(world.memory);
        return at < 0 ? at : FOUND;
    }

    public int result(int what) {
        return anyOutcome && what >= 0 && what < OUTCOMES ? outcome[what] : NONE;
    }

    public boolean quit(int walker) {
        Walker w = world.walkerAt(walker);
        if (w == null) {
            return refuseFlatly(REFUSED_WALKER);
        }
        history.keep(world);
        w.stop(world.memory);
        return true;
    }

    // ---- traces

    public int trace() {
        int count = takeRow();
        if (count == NONE) {
            return refuse(REFUSED_WALKER);
        }
        traced.become(told, count);
        return count;
    }

    public int loads(int room) {
        return isRoom(room) && traced.length > 0 ? traced.loadsBy(room, world.memory) : NONE;
    }

    public int least(int n) {
        return traced.runAll(world.memory) ? traced.leastRoom(n) : NONE;
    }

    public boolean see(int n) {
        if (traced.length == 0 || n < 0) {
            return refuseFlatly(REFUSED_WALKER);
        }
        traced.seen = n;
        return true;
    }

    public int fits(int k) {
        return traced.runAll(world.memory) ? traced.fitting(k) : NONE;
    }

    public int tells(int what) {
        if (what < 0 || what > 1 || !traced.runAll(world.memory)) {
            return NONE;
        }
        return traced.telling(what == 1);
    }

    // ---- undone, refused

    public boolean undo() {
        return history.bringBack(world) || refuseFlatly(REFUSED_HANDLE);
    }

    public boolean seed(int seed) {
        if (seed < 0) {
            return refuseFlatly(REFUSED_WALKER);
        }
        draws = seed;
        return true;
    }

    public int status(int what) {
        return what >= 0 && what < REFUSED_KINDS ? refused[what] : NONE;
    }

    // ---- helpers of the calls

    private int refuse(int kind) {
        if (kind >= 0 && kind < REFUSED_KINDS) {
            refused[kind]++;
        }
        return NONE;
    }

    private boolean refuseFlatly(int kind) {
        refuse(kind);
        return false;
    }

    private int orRefuse(int answer, int kind) {
        return answer < 0 ? refuse(kind) : answer;
    }

    private boolean hasTrees() {
        return world.nodes.volumes > 0;
    }

    private static boolean isRoom(int room) {
        return room >= LEAST_ROOM && room <= MOST_ROOM;
    }

    /** Takes the tape as a row of PATHS into told: how many; NONE if it is none, or without TREES. */
    private int takeRow() {
        int count = hasTrees() ? readRow(tape, told) : NONE;
        tape.clear();
        return count;
    }

    private boolean takePaths(int count) {
        return takeRow() == count;
    }

    /** Walks in a copy of the MEMORY, so that the MEMORY itself stays. */
    private int tryOut(Route route) {
        trial.copyFrom(world.memory);
        return trial.walk(route, route.length);
    }

    private void tellOutcome(Walker w, int at) {
        anyOutcome = true;
        outcome[0] = at < 0 ? at : world.memory.nodeOf(at);
        outcome[1] = at < 0 ? NONE : at;
        outcome[2] = w.restarts;
        outcome[3] = w.heavy ? 1 : 0;
    }

    private int drawOf(int choice) {
        draws = (1103515245L * draws + 12345L) & 0x7fffffffL;
        return choice <= 0 ? 0 : (int) (draws / 64 % choice);
    }

    private void writeRoute(Route route) {
        if (route.length == 0) {
            writeByte('/');
        }
        for (int k = 0; k < route.length; k++) {
            writeByte('/');
            writeName(route.stepAt(k));
        }
    }

    private void writeName(int name) {
        for (int k = 0; k < MOST_LETTERS; k++) {
            int letter = letterOf(name, k);
            if (letter > 0) {
                writeByte('a' + letter - 1);
            }
        }
    }

    private void writeByte(int octet) {
        if (writtenLength >= 0 && writtenLength < written.length) {
            written[writtenLength] = octet;
            writtenLength++;
        }
    }

    // ---- names and paths in a text

    private static boolean isLetter(int octet) {
        return octet >= 'a' && octet <= 'z';
    }

    private static int letterOf(int name, int k) {
        return name >> BITS_A_LETTER * k & 31;
    }

    /** The NAME that the bytes from .. to - 1 are, packed; NO_STEP if they are none. */
    private static int nameBetween(Tape tape, int from, int to) {
        int length = to - from;
        if (length < 1 || length > MOST_LETTERS) {
            return NO_STEP;
        }
        int name = 0;
        for (int k = 0; k < length; k++) {
            int octet = tape.at(from + k);
            if (!isLetter(octet)) {
                return NO_STEP;
            }
            name |= octet - 'a' + 1 << BITS_A_LETTER * k;
        }
        return name;
    }

    private static int stepBetween(Tape tape, int from, int to) {
        boolean dots = tape.at(from) == '.';
        if (dots && to - from == 1) {
            return STAY;
        }
        if (dots && to - from == 2 && tape.at(from + 1) == '.') {
            return UP;
        }
        return nameBetween(tape, from, to);
    }

    /** Reads the whole tape as PATHS with one blank between: how many; NONE if it is no such row. */
    private static int readRow(Tape tape, Route[] into) {
        int from = 0;
        int count = 0;
        for (int pos = 0; pos <= tape.length; pos++) {
            if (pos < tape.length && tape.at(pos) != BLANK) {
                continue;
            }
            Route route = count < into.length ? into[count] : null;
            if (route == null || !route.readFrom(tape, from, pos)) {
                return NONE;
            }
            count++;
            from = pos + 1;
        }
        return count;
    }

    /** The bytes that were fed. */
    private static final class Tape {
        private final int[] bytes = new int[MOST_BYTES];
        private int length;

        boolean hasSpace(int count) {
            return length + count <= MOST_BYTES;
        }

        void addWord(int word) {
            for (int shift = 24; shift >= 0; shift -= 8) {
                if (length >= 0 && length < MOST_BYTES) {
                    bytes[length] = word >>> shift & 255;
                    length++;
                }
            }
        }

        boolean cut(int n) {
            if (n < 0 || n > length) {
                return false;
            }
            length = n;
            return true;
        }

        void clear() {
            length = 0;
        }

        int at(int k) {
            return k >= 0 && k < length && k < MOST_BYTES ? bytes[k] : END;
        }
    }

    /** The STEPS of a PATH. */
    private static final class Route {
        private final int[] steps;
        private int length;

        Route(int most) {
            steps = new int[Math.max(most, 0)];
        }

        void clear() {
            length = 0;
        }

        boolean push(int step) {
            if (length < 0 || length >= steps.length) {
                return false;
            }
            steps[length] = step;
            length++;
            return true;
        }

        int stepAt(int k) {
            return k >= 0 && k < length && k < steps.length ? steps[k] : NO_STEP;
        }

        int last() {
            return stepAt(length - 1);
        }

        void turnAround() {
            for (int low = 0, high = length - 1; low >= 0 && low < high && high < steps.length; low++, high--) {
                int step = steps[low];
                steps[low] = steps[high];
                steps[high] = step;
            }
        }

        void copyFrom(Route other) {
            length = 0;
            for (int k = 0; k < other.length; k++) {
                push(other.stepAt(k));
            }
        }

        /** Takes the bytes from .. to - 1 as a PATH; false if they are none. */
        boolean readFrom(Tape tape, int from, int to) {
            length = 0;
            if (to - from == 1) {
                return tape.at(from) == '/';
            }
            int slash = from;
            // one turn more than there may be STEPS, so that one too many is met
            for (int turn = 0; turn <= steps.length && slash < to; turn++) {
                int stop = endOfStep(tape, slash + 1, to);
                int step = stepBetween(tape, slash + 1, stop);
                if (tape.at(slash) != '/' || step == NO_STEP || !push(step)) {
                    return false;
                }
                slash = stop;
            }
            return length > 0;
        }

        private static int endOfStep(Tape tape, int from, int to) {
            int stop = from;
            while (stop < to && tape.at(stop) != '/') {
                stop++;
            }
            return stop;
        }
    }

    /** The NODES of all VOLUMES, with those that are removed, whose VOLUME is asked for still. */
    private static final class Nodes {
        private final int[] volume = new int[MOST_NODES];
        private final int[] parent = new int[MOST_NODES];
        private final int[] name = new int[MOST_NODES];
        private final int[] kind = new int[MOST_NODES];
        private final int[] roots = new int[MOST_VOLUMES];
        private int ever;
        private int volumes;

        void clear() {
            ever = 0;
            volumes = 0;
        }

        void copyFrom(Nodes other) {
            System.arraycopy(other.volume, 0, volume, 0, MOST_NODES);
            System.arraycopy(other.parent, 0, parent, 0, MOST_NODES);
            System.arraycopy(other.name, 0, name, 0, MOST_NODES);
            System.arraycopy(other.kind, 0, kind, 0, MOST_NODES);
            System.arraycopy(other.roots, 0, roots, 0, MOST_VOLUMES);
            ever = other.ever;
            volumes = other.volumes;
        }

        boolean isFull() {
            return ever >= MOST_NODES;
        }

        boolean exists(int n) {
            return n >= 0 && n < MOST_NODES && n < ever && kind[n] != REMOVED;
        }

        boolean isFolder(int n) {
            return exists(n) && kind[n] == FOLDER;
        }

        boolean hasVolume(int v) {
            return v >= 0 && v < MOST_VOLUMES && v < volumes;
        }

        int rootOf(int v) {
            return hasVolume(v) ? roots[v] : NONE;
        }

        int volumeOf(int n) {
            return n >= 0 && n < MOST_NODES && n < ever ? volume[n] : NONE;
        }

        int parentOf(int n) {
            return exists(n) ? parent[n] : NONE;
        }

        int nameOf(int n) {
            return exists(n) ? name[n] : NO_STEP;
        }

        boolean addVolume() {
            if (volumes < 0 || volumes >= MOST_VOLUMES || ever >= MOST_NODES) {
                return false;
            }
            volumes++;
            roots[volumes - 1] = put(volumes - 1, NONE, NO_STEP, FOLDER);
            return true;
        }

        int addIn(int folder, int newName, int newKind) {
            return isFolder(folder) ? put(volume[folder], folder, newName, newKind) : NONE;
        }

        private int put(int v, int folder, int newName, int newKind) {
            int n = ever;
            if (n < 0 || n >= MOST_NODES) {
                return NONE;
            }
            ever++;
            volume[n] = v;
            parent[n] = folder;
            name[n] = newName;
            kind[n] = newKind;
            return n;
        }

        void becomeFolder(int n) {
            if (exists(n)) {
                kind[n] = FOLDER;
            }
        }

        void take(int n) {
            if (exists(n)) {
                kind[n] = REMOVED;
            }
        }

        void move(int n, int newParent, int newName) {
            if (exists(n) && isFolder(newParent)) {
                parent[n] = newParent;
                name[n] = newName;
            }
        }

        int find(int folder, int byName) {
            for (int n = 0; n < ever && n < MOST_NODES; n++) {
                if (kind[n] != REMOVED && parent[n] == folder && name[n] == byName) {
                    return n;
                }
            }
            return NONE;
        }

        int howManyIn(int folder) {
            int count = 0;
            for (int n = 0; n < ever && n < MOST_NODES; n++) {
                if (kind[n] != REMOVED && parent[n] == folder) {
                    count++;
                }
            }
            return count;
        }

        int howMany() {
            int count = 0;
            for (int n = 0; n < ever && n < MOST_NODES; n++) {
                count += kind[n] != REMOVED ? 1 : 0;
            }
            return count;
        }

        int tell(int n, int what) {
            if (!exists(n)) {
                return NONE;
            }
            switch (what) {
                case 0: return volume[n];
                case 1: return kind[n] == FOLDER ? 1 : 0;
                case 2: return parent[n];
                case 3: return howManyIn(n);
                default: return NONE;
            }
        }
    }

    /** Reads TREES into a draft, so that a FAULT leaves the TREES that are as they are. */
    private static final class Reader {
        private final Nodes draft = new Nodes();
        private int fault;
        private int place = NONE;
        private int pos;
        private int depth;
        private int folder;
        private boolean inVolume;

        boolean readTrees(Tape tape) {
            draft.clear();
            fault = 0;
            place = NONE;
            pos = 0;
            depth = 0;
            folder = NONE;
            inVolume = false;
            boolean more = true;
            // each turn but a VOLUME's first goes on by a byte at least
            for (int turn = 0; more && turn <= 2 * MOST_BYTES; turn++) {
                skipBlanks(tape);
                int octet = tape.at(pos);
                more = inVolume ? readInside(tape, octet) : readOutside(octet);
            }
            return fault == 0;
        }

        private boolean fail(int kind, int at) {
            fault = kind;
            place = at;
            return false;
        }

        private void skipBlanks(Tape tape) {
            while (pos < tape.length && (tape.at(pos) == BLANK || tape.at(pos) == NEW_LINE)) {
                pos++;
            }
        }

        /** Where a VOLUME may begin or the text end; whether it goes on. */
        private boolean readOutside(int octet) {
            if (octet == END) {
                return draft.volumes == 0 && fail(UNEXPECTED, pos);
            }
            if (draft.volumes >= MOST_VOLUMES) {
                return fail(TOO_MANY, pos);
            }
            if (octet != ';' && !isLetter(octet)) {
                return fail(UNEXPECTED, pos);
            }
            if (draft.ever >= MOST_TOLD || !draft.addVolume()) {
                return fail(TOO_MANY, pos);
            }
            folder = draft.rootOf(draft.volumes - 1);
            inVolume = true;
            return true;
        }

        private boolean readInside(Tape tape, int octet) {
            if (octet == ';' && depth == 0) {
                inVolume = false;
                pos++;
                return true;
            }
            if (octet == '}' && depth > 0) {
                folder = draft.parentOf(folder);
                depth--;
                pos++;
                return true;
            }
            return isLetter(octet) ? readItem(tape) : fail(UNEXPECTED, pos);
        }

        /** A NAME and, if it is a folder's, the brace that opens. */
        private boolean readItem(Tape tape) {
            int start = pos;
            if (draft.ever >= MOST_TOLD) {
                return fail(TOO_MANY, start);
            }
            while (pos - start < MOST_LETTERS && isLetter(tape.at(pos))) {
                pos++;
            }
            if (isLetter(tape.at(pos))) {
                return fail(UNEXPECTED, pos);
            }
            int name = nameBetween(tape, start, pos);
            if (draft.find(folder, name) != NONE) {
                return fail(TWICE, start);
            }
            int node = draft.addIn(folder, name, FILE);
            skipBlanks(tape);
            return tape.at(pos) != '{' || openFolder(node);
        }

        private boolean openFolder(int node) {
            if (depth >= MOST_DEPTH) {
                return fail(TOO_MANY, pos);
            }
            draft.becomeFolder(node);
            folder = node;
            depth++;
            pos++;
            return true;
        }
    }

    /** The MEMORY: ENTRIES, by number, what holds them, what is MOUNTED. */
    private static final class Memory {
        private final Nodes nodes;
        private final int[] state = new int[MOST_ENTRIES];
        private final int[] parent = new int[MOST_ENTRIES];
        private final int[] name = new int[MOST_ENTRIES];
        private final int[] node = new int[MOST_ENTRIES];
        private final int[] held = new int[MOST_ENTRIES];
        private final int[] count = new int[MOST_ENTRIES];
        private final int[] lastUse = new int[MOST_ENTRIES];
        private final int[] birth = new int[MOST_ENTRIES];
        private final int[] rootEntry = new int[MOST_VOLUMES];
        private final int[] covered = new int[MOST_VOLUMES];
        private int limit;
        private int tick;
        private int loaded;
        private int trimmed;
        /* What the latest STEP came to: a WALKER's WAY goes on by these. */
        private final int[] trail = new int[2];
        private int trailLength;

        Memory(Nodes nodes) {
            this.nodes = nodes;
            Arrays.fill(rootEntry, NONE);
            Arrays.fill(covered, NONE);
        }

        void startAnew() {
            Arrays.fill(state, UNUSED);
            Arrays.fill(rootEntry, NONE);
            Arrays.fill(covered, NONE);
            limit = MOST_ROOM;
            tick = 0;
            loaded = 0;
            trimmed = 0;
            trailLength = 0;
            rootEntry[0] = add(NONE, NO_STEP, nodes.rootOf(0));
        }

        void copyFrom(Memory other) {
            System.arraycopy(other.state, 0, state, 0, MOST_ENTRIES);
            System.arraycopy(other.parent, 0, parent, 0, MOST_ENTRIES);
            System.arraycopy(other.name, 0, name, 0, MOST_ENTRIES);
            System.arraycopy(other.node, 0, node, 0, MOST_ENTRIES);
            System.arraycopy(other.held, 0, held, 0, MOST_ENTRIES);
            System.arraycopy(other.count, 0, count, 0, MOST_ENTRIES);
            System.arraycopy(other.lastUse, 0, lastUse, 0, MOST_ENTRIES);
            System.arraycopy(other.birth, 0, birth, 0, MOST_ENTRIES);
            System.arraycopy(other.rootEntry, 0, rootEntry, 0, MOST_VOLUMES);
            System.arraycopy(other.covered, 0, covered, 0, MOST_VOLUMES);
            limit = other.limit;
            tick = other.tick;
            loaded = other.loaded;
            trimmed = other.trimmed;
        }

        boolean isEntry(int e) {
            return e >= 0 && e < MOST_ENTRIES && state[e] != UNUSED;
        }

        boolean isGone(int e) {
            return isEntry(e) && state[e] == GONE;
        }

        boolean isAbsence(int e) {
            return isEntry(e) && node[e] == NONE;
        }

        boolean isFolder(int e) {
            return isEntry(e) && nodes.isFolder(node[e]);
        }

        int nodeOf(int e) {
            return isEntry(e) ? node[e] : NONE;
        }

        int nameOf(int e) {
            return isEntry(e) ? name[e] : NO_STEP;
        }

        boolean isMounted(int v) {
            return v >= 0 && v < MOST_VOLUMES && rootEntry[v] != NONE;
        }

        /** The VOLUME whose ROOT an ENTRY is; NONE if it is no ROOT. */
        int rootVolume(int e) {
            for (int v = 0; v < MOST_VOLUMES; v++) {
                if (e != NONE && rootEntry[v] == e) {
                    return v;
                }
            }
            return NONE;
        }

        int coveringVolume(int e) {
            for (int v = 0; v < MOST_VOLUMES; v++) {
                if (e != NONE && covered[v] == e) {
                    return v;
                }
            }
            return NONE;
        }

        int coveredBy(int v) {
            return v >= 0 && v < MOST_VOLUMES ? covered[v] : NONE;
        }

        /** FOUND, no ROOT, not COVERED: what REMOVED, RENAMED, MOUNTED ask alike. */
        boolean canChange(int e) {
            return isEntry(e) && rootVolume(e) == NONE && coveringVolume(e) == NONE;
        }

        int find(int under, int byName) {
            if (!isEntry(under)) {
                return NONE;
            }
            for (int e = 0; e < MOST_ENTRIES; e++) {
                if (state[e] != UNUSED && parent[e] == under && name[e] == byName) {
                    return e;
                }
            }
            return NONE;
        }

        private int leastUnused() {
            for (int e = 0; e < MOST_ENTRIES; e++) {
                if (state[e] == UNUSED) {
                    return e;
                }
            }
            return NONE;
        }

        private int add(int under, int newName, int newNode) {
            int e = leastUnused();
            if (e < 0 || e >= MOST_ENTRIES) {
                return NONE;
            }
            state[e] = KEPT;
            parent[e] = under;
            name[e] = newName;
            node[e] = newNode;
            held[e] = 0;
            count[e] = 0;
            birth[e] = tick;
            hold(under);
            comeTo(e);
            return e;
        }

        private void comeTo(int e) {
            if (e < 0 || e >= MOST_ENTRIES) {
                return;
            }
            lastUse[e] = tick;
            tick++;
            if (trailLength >= 0 && trailLength < trail.length) {
                trail[trailLength] = e;
                trailLength++;
            }
        }

        /** An ENTRY that nothing holds goes; the one above it, never a GONE one, is HELD once less. */
        void drop(int e) {
            if (e < 0 || e >= MOST_ENTRIES) {
                return;
            }
            state[e] = UNUSED;
            int above = parent[e];
            if (above >= 0 && above < MOST_ENTRIES) {
                held[above]--;
            }
        }

        void hold(int e) {
            if (e >= 0 && e < MOST_ENTRIES) {
                held[e]++;
            }
        }

        /** A GONE ENTRY goes with the last that held it. */
        void release(int e) {
            if (e < 0 || e >= MOST_ENTRIES) {
                return;
            }
            held[e]--;
            if (state[e] == GONE && held[e] <= 0) {
                state[e] = UNUSED;
            }
        }

        /** The CHILD of a folder's ENTRY, come to or LOADED. */
        int reach(int under, int byName) {
            int e = find(under, byName);
            if (e != NONE) {
                comeTo(e);
                return e;
            }
            e = add(under, byName, nodes.find(nodeOf(under), byName));
            if (e != NONE) {
                loaded++;
                shrink(e);
            }
            return e;
        }

        private void shrink(int justLoaded) {
            int tooMany = howManyButRoots() - limit;
            for (int turn = 0; turn < tooMany; turn++) {
                int e = longestUnused(justLoaded);
                if (e == NONE) {
                    return;
                }
                drop(e);
                trimmed++;
            }
        }

        /**
         * The FREE ENTRY of the least USE but for one that is spared; NONE if there is none.
         * Only ROOTS and GONE ENTRIES, which are HELD, have no PARENT.
         */
        int longestUnused(int spared) {
            int best = NONE;
            int bestUse = 0;
            for (int e = 0; e < MOST_ENTRIES; e++) {
                boolean free = state[e] == KEPT && held[e] == 0 && parent[e] != NONE;
                if (free && e != spared && (best == NONE || lastUse[e] < bestUse)) {
                    best = e;
                    bestUse = lastUse[e];
                }
            }
            return best;
        }

        int trimSome(int n) {
            int before = trimmed;
            for (int turn = 0; turn < n; turn++) {
                int e = longestUnused(NONE);
                if (e == NONE) {
                    break;
                }
                drop(e);
                trimmed++;
            }
            return trimmed - before;
        }

        int comeToRoot() {
            trailLength = 0;
            comeTo(rootEntry[0]);
            return rootEntry[0];
        }

        /** A WALK of the first STEPS: the ENTRY it comes to, NOTHING, BLOCKED. */
        int walk(Route route, int steps) {
            int at = comeToRoot();
            for (int k = 0; k < steps && at >= 0; k++) {
                at = stepFrom(at, route.stepAt(k));
            }
            return at;
        }

        int stepFrom(int at, int step) {
            trailLength = 0;
            if (step == STAY) {
                return at;
            }
            if (step == UP) {
                return stepUp(at);
            }
            if (!isFolder(at)) {
                return BLOCKED;
            }
            int e = reach(at, step);
            if (!isEntry(e) || node[e] == NONE) {
                return NOTHING;
            }
            int v = coveringVolume(e);
            if (v < 0 || v >= MOST_VOLUMES) {
                return e;
            }
            comeTo(rootEntry[v]);
            return rootEntry[v];
        }

        private int stepUp(int at) {
            int v = rootVolume(at);
            if (v == 0) {
                return at;
            }
            int below = at;
            if (v != NONE) {
                below = coveredBy(v);
                comeTo(below);
            }
            if (!isEntry(below) || !isEntry(parent[below])) {
                return at;
            }
            comeTo(parent[below]);
            return parent[below];
        }

        /** An ABSENCE has a NODE from now on. */
        int fill(int e, int kind) {
            if (!isAbsence(e)) {
                return NONE;
            }
            node[e] = nodes.addIn(nodeOf(parent[e]), name[e], kind);
            count[e]++;
            return node[e];
        }

        /** The NODE of an ENTRY has been removed: it is an ABSENCE or, HELD, GONE. */
        void empty(int e) {
            if (!isEntry(e)) {
                return;
            }
            count[e]++;
            for (int below = 0; below < MOST_ENTRIES; below++) {
                if (state[below] != UNUSED && parent[below] == e) {
                    drop(below);
                }
            }
            if (held[e] == 0) {
                node[e] = NONE;
                return;
            }
            int above = parent[e];
            state[e] = GONE;
            parent[e] = NONE;
            release(above);
        }

        void move(int e, int newParent, int newName) {
            if (!isEntry(e) || !isEntry(newParent)) {
                return;
            }
            int above = parent[e];
            parent[e] = newParent;
            name[e] = newName;
            count[e]++;
            hold(newParent);
            release(above);
        }

        /** Whether an ENTRY is another one, or below it. */
        boolean isWithin(int e, int top) {
            int at = e;
            for (int turn = 0; turn < MOST_ENTRIES && isEntry(at); turn++) {
                if (at == top) {
                    return true;
                }
                at = parent[at];
            }
            return false;
        }

        int cover(int e, int v) {
            if (!isEntry(e) || v < 0 || v >= MOST_VOLUMES) {
                return NONE;
            }
            covered[v] = e;
            count[e]++;
            hold(e);
            rootEntry[v] = add(NONE, NO_STEP, nodes.rootOf(v));
            return rootEntry[v];
        }

        private boolean isOf(int e, int v) {
            if (!isEntry(e)) {
                return false;
            }
            int n = node[e] == NONE ? nodeOf(parent[e]) : node[e];
            return nodes.volumeOf(n) == v;
        }

        private int heldBelow(int e) {
            int count = 0;
            for (int below = 0; below < MOST_ENTRIES; below++) {
                if (state[below] != UNUSED && parent[below] == e) {
                    count++;
                }
            }
            return count;
        }

        /** Whether an ENTRY of a VOLUME is HELD by more than those below it. */
        boolean isBusy(int v) {
            for (int e = 0; e < MOST_ENTRIES; e++) {
                if (isOf(e, v) && held[e] > heldBelow(e)) {
                    return true;
                }
            }
            return false;
        }

        /** UNMOUNTS a VOLUME that is not busy: how many ENTRIES went. */
        int dropVolume(int v) {
            if (v < 0 || v >= MOST_VOLUMES) {
                return NONE;
            }
            int before = howMany();
            // an ABSENCE is known to be the VOLUME's by its PARENT: it goes ahead of that
            for (int e = 0; e < MOST_ENTRIES; e++) {
                if (isAbsence(e) && isOf(e, v)) {
                    drop(e);
                }
            }
            for (int e = 0; e < MOST_ENTRIES; e++) {
                if (isOf(e, v)) {
                    drop(e);
                }
            }
            int under = covered[v];
            rootEntry[v] = NONE;
            covered[v] = NONE;
            if (isEntry(under)) {
                count[under]++;
                release(under);
            }
            return before - howMany();
        }

        /** Leaves ROOTS and COVERED ENTRIES with those above them alone, as a TRACE begins. */
        void keepMountsAlone() {
            Arrays.fill(held, 0);
            for (int v = 0; v < MOST_VOLUMES; v++) {
                markUpFrom(rootEntry[v]);
                markUpFrom(covered[v]);
            }
            for (int e = 0; e < MOST_ENTRIES; e++) {
                if (held[e] == 0) {
                    state[e] = UNUSED;
                }
            }
            Arrays.fill(held, 0);
            for (int e = 0; e < MOST_ENTRIES; e++) {
                if (state[e] != UNUSED) {
                    hold(parent[e]);
                }
            }
            for (int v = 0; v < MOST_VOLUMES; v++) {
                hold(covered[v]);
            }
        }

        private void markUpFrom(int e) {
            int at = e;
            for (int turn = 0; turn < MOST_ENTRIES && isEntry(at); turn++) {
                held[at] = 1;
                at = parent[at];
            }
        }

        int howMany() {
            int sum = 0;
            for (int e = 0; e < MOST_ENTRIES; e++) {
                sum += state[e] != UNUSED ? 1 : 0;
            }
            return sum;
        }

        private int howManyButRoots() {
            int sum = 0;
            for (int e = 0; e < MOST_ENTRIES; e++) {
                sum += state[e] == GONE || state[e] == KEPT && parent[e] != NONE ? 1 : 0;
            }
            return sum;
        }

        int absences() {
            int sum = 0;
            for (int e = 0; e < MOST_ENTRIES; e++) {
                sum += isAbsence(e) ? 1 : 0;
            }
            return sum;
        }

        int freeOnes() {
            int sum = 0;
            for (int e = 0; e < MOST_ENTRIES; e++) {
                sum += state[e] == KEPT && held[e] == 0 && parent[e] != NONE ? 1 : 0;
            }
            return sum;
        }

        int goneOnes() {
            int sum = 0;
            for (int e = 0; e < MOST_ENTRIES; e++) {
                sum += isGone(e) ? 1 : 0;
            }
            return sum;
        }

        int mountedBits() {
            int bits = 0;
            for (int v = 0; v < MOST_VOLUMES; v++) {
                bits |= rootEntry[v] == NONE ? 0 : 1 << v;
            }
            return bits;
        }

        int tell(int e, int what) {
            if (!isEntry(e)) {
                return NONE;
            }
            switch (what) {
                case 0: return parent[e];
                case 1: return node[e];
                case 2: return held[e];
                case 3: return count[e];
                case 4: return lastUse[e];
                case 5: return birth[e];
                case 6: return coveringVolume(e);
                case 7: return state[e] == GONE ? 1 : 0;
                default: return NONE;
            }
        }
    }

    /** A WALK that is done a STEP at a time. */
    private static final class Walker {
        private final Route route = new Route(MOST_STEPS);
        private final int[] way = new int[MOST_WAY];
        private final int[] births = new int[MOST_WAY];
        private final int[] counts = new int[MOST_WAY];
        private int wayLength;
        private boolean underWay;
        private boolean heavy;
        private int restarts;
        private int done;

        void copyFrom(Walker other) {
            route.copyFrom(other.route);
            System.arraycopy(other.way, 0, way, 0, MOST_WAY);
            System.arraycopy(other.births, 0, births, 0, MOST_WAY);
            System.arraycopy(other.counts, 0, counts, 0, MOST_WAY);
            wayLength = other.wayLength;
            underWay = other.underWay;
            heavy = other.heavy;
            restarts = other.restarts;
            done = other.done;
        }

        void start(Route along, Memory memory) {
            route.copyFrom(along);
            underWay = true;
            heavy = false;
            restarts = 0;
            goToRoot(memory);
        }

        void stop(Memory memory) {
            letGo(memory);
            underWay = false;
            wayLength = 0;
        }

        boolean isThrough() {
            return done >= route.length;
        }

        /** A STEP, or all of them: the ENTRY it is at then, NOTHING, BLOCKED. */
        int goOn(Memory memory) {
            if (isChanged(memory)) {
                letGo(memory);
                restarts++;
                heavy = true;
                goToRoot(memory);
            } else if (!heavy && lacksNext(memory)) {
                heavy = true;
                holdAll(memory);
            }
            int turns = restarts >= LAST_RESTART ? route.length : 1;
            int at = lastOfWay();
            for (int turn = 0; turn < turns && at >= 0 && !isThrough(); turn++) {
                at = memory.stepFrom(at, route.stepAt(done));
                done++;
                takeTrail(memory);
            }
            return at;
        }

        private void goToRoot(Memory memory) {
            wayLength = 0;
            done = 0;
            memory.comeToRoot();
            takeTrail(memory);
        }

        private void takeTrail(Memory memory) {
            for (int k = 0; k < memory.trailLength && k < memory.trail.length; k++) {
                int e = memory.trail[k];
                // an ABSENCE is HELD by none; the WALKER is over there
                if (memory.isEntry(e) && !memory.isAbsence(e) && wayLength >= 0 && wayLength < MOST_WAY) {
                    way[wayLength] = e;
                    births[wayLength] = memory.birth[e];
                    counts[wayLength] = memory.count[e];
                    wayLength++;
                    if (heavy) {
                        memory.hold(e);
                    }
                }
            }
        }

        private boolean isChanged(Memory memory) {
            for (int k = 0; k < wayLength && k < MOST_WAY; k++) {
                int e = way[k];
                if (!memory.isEntry(e) || memory.birth[e] != births[k] || memory.count[e] != counts[k]) {
                    return true;
                }
            }
            return false;
        }

        private boolean lacksNext(Memory memory) {
            int step = route.stepAt(done);
            return step > 0 && memory.find(lastOfWay(), step) == NONE;
        }

        private void holdAll(Memory memory) {
            for (int k = 0; k < wayLength && k < MOST_WAY; k++) {
                memory.hold(way[k]);
            }
        }

        private void letGo(Memory memory) {
            for (int k = 0; heavy && k < wayLength && k < MOST_WAY; k++) {
                memory.release(way[k]);
            }
        }

        private int lastOfWay() {
            return wayLength > 0 && wayLength <= MOST_WAY ? way[wayLength - 1] : NONE;
        }

        int tell(int what) {
            switch (what) {
                case 0: return heavy ? 1 : 0;
                case 1: return restarts;
                case 2: return done;
                case 3: return route.length;
                case 4: return wayLength;
                case 5: return lastOfWay();
                default: return NONE;
            }
        }
    }

    /** All that undo() brings back. */
    private static final class World {
        private final Nodes nodes;
        private final Memory memory;
        private final int[] handles = new int[MOST_HANDLES];
        private final Walker[] walkers = new Walker[MOST_WALKERS];

        World(Nodes nodes, Memory memory) {
            this.nodes = nodes;
            this.memory = memory;
            Arrays.fill(handles, NONE);
            for (int k = 0; k < walkers.length; k++) {
                walkers[k] = new Walker();
            }
        }

        void copyFrom(World other) {
            nodes.copyFrom(other.nodes);
            memory.copyFrom(other.memory);
            System.arraycopy(other.handles, 0, handles, 0, MOST_HANDLES);
            for (int k = 0; k < walkers.length && k < other.walkers.length; k++) {
                if (walkers[k] != null && other.walkers[k] != null) {
                    walkers[k].copyFrom(other.walkers[k]);
                }
            }
        }

        void startWith(Nodes read) {
            nodes.copyFrom(read);
            memory.startAnew();
            Arrays.fill(handles, NONE);
            for (int k = 0; k < walkers.length; k++) {
                if (walkers[k] != null) {
                    walkers[k].underWay = false;
                }
            }
        }

        // -- handles

        int handleAt(int k) {
            return k >= 0 && k < MOST_HANDLES ? handles[k] : NONE;
        }

        int freeHandle() {
            for (int k = 0; k < MOST_HANDLES; k++) {
                if (handles[k] == NONE) {
                    return k;
                }
            }
            return NONE;
        }

        int handlesOpen() {
            int sum = 0;
            for (int k = 0; k < MOST_HANDLES; k++) {
                sum += handles[k] == NONE ? 0 : 1;
            }
            return sum;
        }

        int openAt(Route route) {
            int e = memory.walk(route, route.length);
            int k = freeHandle();
            if (e < 0 || k < 0 || k >= MOST_HANDLES) {
                return NONE;
            }
            memory.hold(e);
            handles[k] = e;
            return k;
        }

        void closeHandle(int k) {
            if (k >= 0 && k < MOST_HANDLES) {
                memory.release(handles[k]);
                handles[k] = NONE;
            }
        }

        // -- walkers

        /** The WALKER of a number; null if there is none such. */
        Walker walkerAt(int k) {
            if (k < 0 || k >= walkers.length || walkers[k] == null) {
                return null;
            }
            return walkers[k].underWay ? walkers[k] : null;
        }

        int freeWalker() {
            for (int k = 0; k < walkers.length; k++) {
                if (walkers[k] != null && !walkers[k].underWay) {
                    return k;
                }
            }
            return NONE;
        }

        int walkersUnderWay() {
            int sum = 0;
            for (int k = 0; k < walkers.length; k++) {
                sum += walkerAt(k) == null ? 0 : 1;
            }
            return sum;
        }

        int beginWalk(Route route) {
            int k = freeWalker();
            if (k < 0 || k >= walkers.length || walkers[k] == null) {
                return NONE;
            }
            walkers[k].start(route, memory);
            return k;
        }

        // -- nodes made, removed, renamed; volumes mounted

        /** The ABSENCE in a folder by the last STEP; NONE if that is no NAME, or something is there. */
        private int gapIn(int folder, Route route) {
            int name = route.last();
            if (name <= 0) {
                return NONE;
            }
            int e = memory.reach(folder, name);
            return memory.isAbsence(e) ? e : NONE;
        }

        int makeAt(Route route, boolean asFolder) {
            int folder = memory.walk(route, route.length - 1);
            int gap = memory.isFolder(folder) ? gapIn(folder, route) : NONE;
            return gap == NONE ? NONE : memory.fill(gap, asFolder ? FOLDER : FILE);
        }

        int removeAt(Route route) {
            int e = memory.walk(route, route.length);
            int n = memory.nodeOf(e);
            if (!memory.canChange(e) || nodes.howManyIn(n) > 0) {
                return NONE;
            }
            nodes.take(n);
            memory.empty(e);
            return n;
        }

        int renameTo(Route from, Route to) {
            int e = memory.walk(from, from.length);
            if (!memory.canChange(e)) {
                return NONE;
            }
            memory.hold(e);
            int folder = memory.walk(to, to.length - 1);
            int gap = canTake(folder, e) ? gapIn(folder, to) : NONE;
            memory.release(e);
            if (gap == NONE) {
                return NONE;
            }
            memory.drop(gap);
            nodes.move(memory.nodeOf(e), memory.nodeOf(folder), to.last());
            memory.move(e, folder, to.last());
            return e;
        }

        /** Whether a folder is one, in the VOLUME of an ENTRY, and neither it nor below it. */
        private boolean canTake(int folder, int e) {
            int from = nodes.volumeOf(memory.nodeOf(e));
            int to = nodes.volumeOf(memory.nodeOf(folder));
            return memory.isFolder(folder) && from == to && !memory.isWithin(folder, e);
        }

        int mountAt(Route route, int volume) {
            int e = memory.walk(route, route.length);
            boolean can = memory.canChange(e) && memory.isFolder(e);
            return can ? memory.cover(e, volume) : NONE;
        }

        // -- nodes in volumes that are mounted

        private boolean isReachable(int n) {
            return nodes.exists(n) && memory.isMounted(nodes.volumeOf(n));
        }

        int mountedNodes() {
            int sum = 0;
            for (int n = 0; n < MOST_NODES; n++) {
                sum += isReachable(n) ? 1 : 0;
            }
            return sum;
        }

        int mountedNode(int k) {
            int left = k;
            for (int n = 0; n < MOST_NODES; n++) {
                if (isReachable(n)) {
                    if (left == 0) {
                        return n;
                    }
                    left--;
                }
            }
            return NONE;
        }

        /** The PATH by NAMES alone to a NODE, over the folders over which VOLUMES are MOUNTED. */
        void routeTo(int n, Route route) {
            route.clear();
            int at = n;
            for (int turn = 0; turn < 2 * MOST_NODES && nodes.exists(at); turn++) {
                int above = nodes.parentOf(at);
                if (above == NONE) {
                    at = memory.nodeOf(memory.coveredBy(nodes.volumeOf(at)));
                } else {
                    route.push(nodes.nameOf(at));
                    at = above;
                }
            }
            route.turnAround();
        }
    }

    /** The worlds ahead of the latest ACTS, the oldest given up first. */
    private static final class History {
        private final World[] kept = new World[MOST_UNDONE];
        private int next;
        private int length;

        void forget() {
            length = 0;
        }

        void keep(World world) {
            if (next < 0 || next >= kept.length) {
                next = 0;
            }
            World place = kept[next];
            if (place == null) {
                // made at the first need, so that an object that does little stays small
                Nodes nodes = new Nodes();
                place = new World(nodes, new Memory(nodes));
                kept[next] = place;
            }
            place.copyFrom(world);
            next = next + 1 < kept.length ? next + 1 : 0;
            length = Math.min(length + 1, kept.length);
        }

        boolean bringBack(World world) {
            int latest = next > 0 ? next - 1 : kept.length - 1;
            if (length == 0 || latest < 0 || latest >= kept.length || kept[latest] == null) {
                return false;
            }
            world.copyFrom(kept[latest]);
            next = latest;
            length--;
            return true;
        }
    }

    /** The TRACE, what was SEEN, and what each ROOM would make of it. */
    private static final class Trace {
        private final Route[] routes = new Route[MOST_PATHS];
        private int length;
        private int seen = NONE;
        private final Memory bare;
        private final Memory trial;
        private final int[][] loads = new int[ROOMS][MOST_PATHS];
        private final int[] totals = new int[ROOMS];

        Trace(Memory bare, Memory trial) {
            this.bare = bare;
            this.trial = trial;
            for (int k = 0; k < routes.length; k++) {
                routes[k] = new Route(MOST_STEPS);
            }
        }

        void forget() {
            length = 0;
            seen = NONE;
        }

        void become(Route[] others, int count) {
            forget();
            for (int k = 0; k < count && k < routes.length && k < others.length; k++) {
                if (routes[k] != null && others[k] != null) {
                    routes[k].copyFrom(others[k]);
                    length++;
                }
            }
        }

        private void prepare(Memory memory) {
            bare.copyFrom(memory);
            bare.keepMountsAlone();
        }

        /** LOOKS at all PATHS by the ROOM of a row; whether something was TRIMMED. */
        private boolean runBy(int row) {
            if (row < 0 || row >= ROOMS) {
                return false;
            }
            trial.copyFrom(bare);
            trial.limit = LEAST_ROOM + row;
            int start = trial.loaded;
            for (int p = 0; p < length && p < routes.length; p++) {
                Route route = routes[p];
                int before = trial.loaded;
                if (route != null) {
                    trial.walk(route, route.length);
                }
                loads[row][p] = trial.loaded - before;
            }
            totals[row] = trial.loaded - start;
            return trial.trimmed > bare.trimmed;
        }

        /** Fills the rows of all ROOMS; false without a TRACE. */
        boolean runAll(Memory memory) {
            if (length == 0) {
                return false;
            }
            prepare(memory);
            boolean tight = true;
            for (int row = 0; row < ROOMS; row++) {
                if (tight || row == 0) {
                    tight = runBy(row);
                } else {
                    // where nothing had to be TRIMMED, more ROOM changes nothing
                    System.arraycopy(loads[row - 1], 0, loads[row], 0, MOST_PATHS);
                    totals[row] = totals[row - 1];
                }
            }
            return true;
        }

        private boolean isFit(int row) {
            return row >= 0 && row < ROOMS && (seen == NONE || totals[row] == seen);
        }

        int loadsBy(int room, Memory memory) {
            int row = room - LEAST_ROOM;
            if (row < 0 || row >= ROOMS) {
                return NONE;
            }
            prepare(memory);
            runBy(row);
            return totals[row];
        }

        int leastRoom(int n) {
            for (int row = 0; row < ROOMS; row++) {
                if (totals[row] <= n) {
                    return LEAST_ROOM + row;
                }
            }
            return NONE;
        }

        int fitting(int k) {
            int met = 0;
            for (int row = 0; row < ROOMS; row++) {
                if (isFit(row)) {
                    if (met == k) {
                        return LEAST_ROOM + row;
                    }
                    met++;
                }
            }
            return k == NONE ? met : NONE;
        }

        /** The TELLING PATH, or how many FITS it leaves at the most; NONE without FITS. */
        int telling(boolean howMany) {
            int best = NONE;
            int fewest = ROOMS + 1;
            for (int p = 0; p < length && p < MOST_PATHS; p++) {
                int most = mostLeft(p);
                if (most > 0 && most < fewest) {
                    best = p;
                    fewest = most;
                }
            }
            return best == NONE || !howMany ? best : fewest;
        }

        private int mostLeft(int p) {
            int most = 0;
            for (int row = 0; row < ROOMS; row++) {
                if (isFit(row)) {
                    most = Math.max(most, alikeFits(p, row));
                }
            }
            return most;
        }

        private int alikeFits(int p, int row) {
            int alike = 0;
            if (p < 0 || p >= MOST_PATHS || row < 0 || row >= ROOMS) {
                return alike;
            }
            for (int other = 0; other < ROOMS; other++) {
                if (isFit(other) && loads[other][p] == loads[row][p]) {
                    alike++;
                }
            }
            return alike;
        }
    }
}
