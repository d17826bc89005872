import java.util.Arrays;

/**
 * A host for plug-ins: ../shared/DOC.md tells each promise of it.
 *
 * All rows and objects are made with the host and used again, so that no call makes anything.
 */
public final class PluginChains {
    public static final int NONE = -1;

    private static final int NOBODY = -1;
    private static final int OTHER = -2;
    private static final int NOTHING = -3;
    private static final int BELOW = -4;
    private static final int BEYOND = -5;
    private static final int WRONG = -6;
    private static final int ROOM = -7;
    private static final int REFUSALS = 7;

    private static final int SERVICES = 8;
    private static final int ALL_SERVICES = 255;
    private static final int MOST_PLUGS = 12;
    private static final int MOST_RANK = 9;
    private static final int MOST_FAULTS = 9;

    private static final int KINDS = 5;
    private static final int PLAIN = 0;
    private static final int EAGER = 1;
    private static final int STEADY = 2;
    private static final int KEEN = 3;
    private static final int SOUND = 4;

    private static final int IDLE = 0;
    private static final int RUNNING = 1;
    private static final int BROKEN = 2;
    private static final int GONE = 3;

    private static final int LETTERS = 26;
    private static final int NAME_BASE = 27;
    private static final int MOST_LETTERS = 4;
    private static final int LEAST_LONGEST_NAME = 19683;
    private static final int MOST_NAME = 531440;

    private static final int WHY_STATE = 1;
    private static final int WHY_NO_OFFER = 2;
    private static final int WHY_CIRCLE = 3;
    private static final int WHY_OTHER_FAILED = 4;
    private static final int WHY_FAULT = 5;
    private static final int CAUSE_PARTS = 3;

    private static final int STARTED_EVENT = 100;
    private static final int STOPPED_EVENT = 200;
    private static final int BROKEN_EVENT = 300;
    private static final int LOG_KEPT = 40;

    private static final int POINTS = 4;
    private static final int MOST_HOOKS = 24;
    private static final int MOST_PRIORITY = 9;
    private static final int MOST_K = 99;
    private static final int FUNCTIONS = 9;
    private static final int PLUS = 0;
    private static final int TIMES = 1;
    private static final int TWICE = 2;
    private static final int GUARD = 3;
    private static final int SWAP = 4;
    private static final int COUNT = 5;
    private static final int NOTE = 6;
    private static final int THROW = 7;
    private static final int CATCH = 8;

    private static final int GAVE = 0;
    private static final int THREW = 1;
    private static final int ENDED = 2;
    private static final int MOST_RUNS = 200;
    private static final int TRACE_KEPT = 30;

    private static final int SHELVES = 8;
    private static final int SORTS = 4;
    private static final int MOST_ELEMENTS = 160;
    private static final int ROW_HELD = 100;

    private static final int MOST_TWOS = 80;
    private static final int MOST_APART = 199;
    private static final int MOST_DAYS = 40;
    private static final long TOLD = 10000000000L;

    private final Shelf[] shelves = new Shelf[SHELVES];
    private final Host host = new Host();
    private final Host kept = new Host();
    private boolean imageTaken = false;
    private final Plan plan = new Plan(host);
    private final Waves waves = new Waves(host);
    private final Firing fired = new Firing(host);
    private final Firing tried = new Firing(host);
    private final TextReader reader = new TextReader(host);
    private final EventLog events = new EventLog();
    private final int[] causes = new int[CAUSE_PARTS * MOST_PLUGS];
    private int causeCount = 0;
    private int latestFault = NONE;
    private final int[] refusals = new int[REFUSALS + 1];

    public PluginChains() {
        for (int s = 0; s < SHELVES; s++) {
            shelves[s] = new Shelf();
        }
    }

    // ---- shelves and rows ----

    public int row(int s, int sort, int n) {
        if (!isShelf(s)) {
            return refuse(NOBODY);
        }
        if (n < 0) {
            return refuse(BELOW);
        }
        if (!isBelow(sort, SORTS)) {
            return refuse(WRONG);
        }
        if (n > MOST_ELEMENTS) {
            return refuse(ROOM);
        }
        shelves[s].holdRow(sort, n);
        return 1;
    }

    public int set(int s, int i, long v) {
        int problem = rowProblem(s);
        if (problem != 0) {
            return refuse(problem);
        }
        if (!shelves[s].hasElement(i)) {
            return refuse(BEYOND);
        }
        shelves[s].put(i, v);
        return 1;
    }

    public int copy(int p, int q, int i, int j, int n) {
        int problem = copyProblem(p, q);
        if (problem != 0) {
            return refuse(problem);
        }
        if (n < 0) {
            return refuse(BELOW);
        }
        Shelf from = shelves[p];
        Shelf to = shelves[q];
        if (!from.hasRange(i, n) || !to.hasRange(j, n)) {
            return refuse(BEYOND);
        }
        System.arraycopy(from.elements, i, to.elements, j, n);
        return 1;
    }

    public long element(int s, int i) {
        if (rowProblem(s) != 0 || !shelves[s].hasElement(i)) {
            return 0;
        }
        return shelves[s].elements[i];
    }

    public int show(int s, int p) {
        if (!isShelf(s) || p != NONE && !host.hasPlug(p)) {
            return refuse(NOBODY);
        }
        if (p == NONE) {
            shelves[s].holdNothing();
            return 0;
        }
        shelves[s].holdPlug(p);
        return 1;
    }

    public int holds(int s) {
        if (!isShelf(s)) {
            return NONE;
        }
        Shelf shelf = shelves[s];
        return shelf.hasRow() ? ROW_HELD + shelf.sort : shelf.plug;
    }

    public int says(int s, int kind) {
        if (!isShelf(s) || !isBelow(kind, KINDS)) {
            return refuse(NOBODY);
        }
        if (shelves[s].hasRow()) {
            return refuse(OTHER);
        }
        int p = shelves[s].plug;
        if (!host.hasPlug(p)) {
            return refuse(NOTHING);
        }
        Plug plug = host.plugs[p];
        if (!plug.isOf(kind)) {
            return refuse(OTHER);
        }
        return plug.wordAs(kind);
    }

    // ---- plug-ins ----

    public int plug(int kind, int rank, int needs, int offers, int faults, int name) {
        if (!isBelow(kind, KINDS)) {
            return refuse(NOBODY);
        }
        boolean numbersStand = isUpTo(rank, MOST_RANK) && isUpTo(needs, ALL_SERVICES)
            && isUpTo(offers, ALL_SERVICES) && isUpTo(faults, MOST_FAULTS);
        if (!numbersStand || !isName(name) || host.hasName(name)) {
            return refuse(WRONG);
        }
        if (host.plugCount >= MOST_PLUGS) {
            return refuse(ROOM);
        }
        int p = host.plugCount;
        host.plugs[p].begin(kind, rank, needs, offers, faults, name);
        host.plugCount++;
        return p;
    }

    public int read(int s) {
        int problem = rowProblem(s);
        if (problem != 0) {
            return refuse(problem);
        }
        latestFault = reader.parse(shelves[s]);
        if (latestFault != NONE) {
            return refuse(WRONG);
        }
        return reader.addItems();
    }

    public int fault() {
        return latestFault;
    }

    public int plugOf(int p, int what) {
        if (!host.hasPlug(p)) {
            return refuse(BEYOND);
        }
        Plug plug = host.plugs[p];
        switch (what) {
            case 0:
                return plug.state;
            case 1:
                return plug.kind;
            case 2:
                return plug.rank;
            case 3:
                return plug.needs;
            case 4:
                return plug.offers;
            case 5:
                return plug.faults;
            case 6:
                return plug.strength;
            case 7:
                return plug.name;
            default:
                return refuse(BEYOND);
        }
    }

    public int age(int p) {
        if (!host.hasPlug(p)) {
            return refuseByTen(NOBODY);
        }
        return host.runs(p) ? host.plugs[p].age : NONE;
    }

    public int tally(int p) {
        return host.hasPlug(p) ? host.plugs[p].tally : 0;
    }

    public int provider(int p, int service) {
        if (!host.hasPlug(p) || !isBelow(service, SERVICES)) {
            return refuseByTen(NOBODY);
        }
        return host.runs(p) && host.plugs[p].needsService(service) ? host.providerFor(p, service) : NONE;
    }

    // ---- starts and stops ----

    public int start(int p) {
        if (!host.hasPlug(p)) {
            return refuse(NOBODY);
        }
        if (host.runs(p)) {
            return refuse(WRONG);
        }
        if (!tryStart(p)) {
            System.arraycopy(plan.causes, 0, causes, 0, causes.length);
            causeCount = plan.causeCount;
            return refuse(WRONG);
        }
        return plan.startedCount;
    }

    public int cause(int i, int what) {
        if (!isBelow(i, causeCount) || !isBelow(what, CAUSE_PARTS)) {
            return refuse(BEYOND);
        }
        return causes[CAUSE_PARTS * i + what];
    }

    public int stop(int p) {
        if (!host.hasPlug(p)) {
            return refuse(NOBODY);
        }
        if (!host.runs(p)) {
            return refuse(WRONG);
        }
        return stopWaves(p);
    }

    public int wave(int p, int q) {
        if (!host.hasPlug(p) || !host.hasPlug(q)) {
            return refuseByTen(NOBODY);
        }
        if (!host.runs(p)) {
            return refuseByTen(WRONG);
        }
        waves.spread(p);
        return waves.waveOf[q];
    }

    public int mend(int p) {
        if (!host.hasPlug(p)) {
            return refuse(NOBODY);
        }
        Plug plug = host.plugs[p];
        if (plug.state != BROKEN) {
            return refuse(WRONG);
        }
        plug.state = IDLE;
        return plug.faults;
    }

    public int remove(int p) {
        if (!host.hasPlug(p)) {
            return refuse(NOBODY);
        }
        Plug plug = host.plugs[p];
        if (plug.state == GONE) {
            return refuse(WRONG);
        }
        int stopped = plug.state == RUNNING ? stopWaves(p) : 0;
        plug.state = GONE;
        return stopped;
    }

    public int would(int p, int i) {
        if (!host.hasPlug(p)) {
            return refuseByTen(NOBODY);
        }
        if (host.runs(p)) {
            return refuseByTen(WRONG);
        }
        int count = plan.make(p) ? plan.startedCount : 0;
        if (i == NONE) {
            return count;
        }
        return isBelow(i, count) ? plan.started[i] : NONE;
    }

    public int running(int i) {
        for (int p = 0; p < host.plugCount; p++) {
            if (host.runs(p) && Integer.bitCount(host.olderThan(p)) == i) {
                return p;
            }
        }
        return NONE;
    }

    public int offered(int service) {
        if (!isBelow(service, SERVICES)) {
            return refuse(NOBODY);
        }
        return host.offering(service, host.runningBits());
    }

    // ---- hooks ----

    public int hook(int p, int point, int priority, int function, int k) {
        if (!host.hasPlug(p) || host.plugs[p].state == GONE || !isBelow(point, POINTS)) {
            return refuse(NOBODY);
        }
        boolean priorityStands = priority >= -MOST_PRIORITY && priority <= MOST_PRIORITY;
        boolean kStands = k >= -MOST_K && k <= MOST_K;
        if (!priorityStands || !isBelow(function, FUNCTIONS) || !kStands) {
            return refuse(WRONG);
        }
        if (host.hookCount >= MOST_HOOKS) {
            return refuse(ROOM);
        }
        int h = host.hookCount;
        host.hooks[h].begin(p, point, priority, function, k);
        host.hookCount++;
        return h;
    }

    public int hookOf(int h, int what) {
        if (!isBelow(h, host.hookCount)) {
            return refuse(BEYOND);
        }
        Hook hook = host.hooks[h];
        switch (what) {
            case 0:
                return hook.plug;
            case 1:
                return hook.point;
            case 2:
                return hook.priority + 10;
            case 3:
                return hook.function;
            case 4:
                return hook.k + 100;
            default:
                return refuse(BEYOND);
        }
    }

    public int chain(int point, int i) {
        if (!isBelow(point, POINTS)) {
            return refuseByTen(NOBODY);
        }
        tried.gather(point, NONE);
        return isBelow(i, tried.length) ? tried.chain[i] : NONE;
    }

    public int fire(int point, int x) {
        if (!isBelow(point, POINTS)) {
            return refuse(NOBODY);
        }
        fired.gather(point, NONE);
        fired.run(x);
        if (fired.outcome == GAVE) {
            fired.keepNotes();
        }
        return fired.outcome;
    }

    public int given() {
        return fired.value;
    }

    public long pure(int point, int x, int what) {
        if (!isBelow(point, POINTS)) {
            return refuse(NOBODY);
        }
        if (what != 0 && what != 1) {
            return refuse(BEYOND);
        }
        tried.gather(point, NONE);
        tried.run(x);
        return what == 0 ? tried.outcome : TOLD + tried.value;
    }

    public int matter(int point, int x) {
        if (!isBelow(point, POINTS)) {
            return refuse(NOBODY);
        }
        tried.gather(point, NONE);
        tried.run(x);
        int outcome = tried.outcome;
        int value = tried.value;
        int bits = 0;
        for (int h = 0; h < host.hookCount; h++) {
            // one that is in no chain changes nothing when it is left out
            tried.gather(point, h);
            tried.run(x);
            if (tried.outcome != outcome || tried.value != value) {
                bits |= 1 << h;
            }
        }
        return bits;
    }

    public long source(int point, int y, int from, int to) {
        if (!isBelow(point, POINTS)) {
            return refuse(NOBODY);
        }
        if (from > to || (long) to - from > MOST_APART) {
            return refuse(WRONG);
        }
        tried.gather(point, NONE);
        for (long x = from; x <= to; x++) {
            if (tried.gives((int) x, y)) {
                return TOLD + x;
            }
        }
        return 0;
    }

    public int judge(int s, int point, int n) {
        int problem = isBelow(point, POINTS) ? rowProblem(s) : NOBODY;
        if (problem != 0) {
            return refuseByTen(problem);
        }
        if (n < 0) {
            return refuseByTen(BELOW);
        }
        if (n > shelves[s].size / 2) {
            return refuseByTen(BEYOND);
        }
        if (n > MOST_TWOS) {
            return refuseByTen(WRONG);
        }
        tried.gather(point, NONE);
        for (int i = 0; i < n; i++) {
            if (!tried.gives(shelves[s].asInt(2 * i), shelves[s].asInt(2 * i + 1))) {
                return i;
            }
        }
        return NONE;
    }

    public int trace(int i) {
        return isBelow(i, Math.min(fired.ran, TRACE_KEPT)) ? fired.trace[i] : NONE;
    }

    // ---- the log, days, the image, numbers ----

    public int log(int i) {
        return events.kept(i);
    }

    public int days(int n) {
        if (host.plugCount == 0) {
            return refuse(BEYOND);
        }
        if (n < 1 || n > MOST_DAYS) {
            return refuse(WRONG);
        }
        for (int day = 0; day < n; day++) {
            liveDay();
        }
        return host.countIn(RUNNING);
    }

    public int seed(int v) {
        int before = host.seed;
        host.seed = v;
        return before;
    }

    public int image() {
        kept.takeFrom(host);
        imageTaken = true;
        return host.plugCount;
    }

    public int restore() {
        if (!imageTaken) {
            return refuse(WRONG);
        }
        host.takeFrom(kept);
        for (int s = 0; s < SHELVES; s++) {
            if (shelves[s].plug >= host.plugCount) {
                shelves[s].holdNothing();
            }
        }
        return host.plugCount;
    }

    public int status(int what) {
        if (what > 10 && what <= 10 + REFUSALS) {
            return refusals[what - 10];
        }
        switch (what) {
            case 0:
                return host.plugCount;
            case 1:
                return host.countIn(RUNNING);
            case 2:
                return host.countIn(BROKEN);
            case 3:
                return host.countIn(GONE);
            case 4:
                return host.hookCount;
            case 5:
                return host.clock;
            case 6:
                return host.seed;
            case 7:
                return causeCount;
            case 8:
                return fired.ran;
            case 9:
                return events.total;
            default:
                return NONE;
        }
    }

    // ---- what the calls share ----

    private int refuse(int number) {
        int sort = -number;
        if (sort >= 1 && sort <= REFUSALS) {
            refusals[sort]++;
        }
        return number;
    }

    /** For calls whose good answers may be -1: they tell a refusal by ten less. */
    private int refuseByTen(int number) {
        return refuse(number) - 10;
    }

    private static boolean isBelow(int i, int count) {
        return i >= 0 && i < count;
    }

    private static boolean isUpTo(int i, int most) {
        return i >= 0 && i <= most;
    }

    private static boolean isShelf(int s) {
        return isBelow(s, SHELVES);
    }

    /** Why shelf s can't stand for a row: 0 if it can. */
    private int rowProblem(int s) {
        if (!isShelf(s)) {
            return NOBODY;
        }
        if (shelves[s].hasPlug()) {
            return OTHER;
        }
        return shelves[s].hasRow() ? 0 : NOTHING;
    }

    private int copyProblem(int p, int q) {
        int first = rowProblem(p);
        int second = rowProblem(q);
        if (first == NOBODY || second == NOBODY) {
            return NOBODY;
        }
        if (first == OTHER || second == OTHER) {
            return OTHER;
        }
        if (first == NOTHING || second == NOTHING) {
            return NOTHING;
        }
        return shelves[p].sort == shelves[q].sort ? 0 : OTHER;
    }

    private static boolean isName(int name) {
        if (name < 1 || name > MOST_NAME) {
            return false;
        }
        int left = name;
        for (int i = 0; i < MOST_LETTERS && left > 0; i++) {
            if (left % NAME_BASE == 0) {
                return false;
            }
            left /= NAME_BASE;
        }
        return true;
    }

    private boolean tryStart(int p) {
        boolean starts = plan.make(p);
        for (int i = 0; i < plan.startedCount; i++) {
            run(plan.started[i]);
        }
        if (!starts) {
            breakDown(plan.broken);
            stopStarted();
        }
        return starts;
    }

    private void stopStarted() {
        for (int i = plan.startedCount - 1; i >= 0; i--) {
            idle(plan.started[i]);
        }
    }

    private void run(int p) {
        if (host.hasPlug(p)) {
            host.plugs[p].state = RUNNING;
            host.plugs[p].age = host.clock;
            host.clock++;
            events.add(STARTED_EVENT + p);
        }
    }

    private void idle(int p) {
        if (host.hasPlug(p)) {
            host.plugs[p].state = IDLE;
            events.add(STOPPED_EVENT + p);
        }
    }

    private void breakDown(int p) {
        if (host.hasPlug(p)) {
            host.plugs[p].faults--;
            host.plugs[p].state = BROKEN;
            events.add(BROKEN_EVENT + p);
        }
    }

    private int stopWaves(int p) {
        int count = waves.spread(p);
        for (int i = 0; i < count; i++) {
            idle(waves.youngestRunning());
        }
        return count;
    }

    private void liveDay() {
        int p = host.draw(host.plugCount);
        int deed = host.draw(3);
        if (!host.hasPlug(p)) {
            return;
        }
        int state = host.plugs[p].state;
        if (deed == 0 && state != RUNNING) {
            tryStart(p);
        } else if (deed == 1 && state == RUNNING) {
            stopWaves(p);
        } else if (deed == 2 && state == BROKEN) {
            host.plugs[p].state = IDLE;
        }
    }

    /** A shelf. Every sort of row is kept in longs that are narrowed when they are put in. */
    private static final class Shelf {
        final long[] elements = new long[MOST_ELEMENTS];
        int sort = NONE;
        int size = 0;
        int plug = NONE;

        void holdRow(int newSort, int newSize) {
            sort = newSort;
            size = newSize;
            plug = NONE;
            Arrays.fill(elements, 0L);
        }

        void holdPlug(int p) {
            holdNothing();
            plug = p;
        }

        void holdNothing() {
            sort = NONE;
            size = 0;
            plug = NONE;
        }

        boolean hasRow() {
            return sort != NONE;
        }

        boolean hasPlug() {
            return plug != NONE;
        }

        boolean hasElement(int i) {
            return i >= 0 && i < size;
        }

        boolean hasRange(int from, int count) {
            return from >= 0 && count >= 0 && from <= size - count;
        }

        int asInt(int i) {
            return hasElement(i) ? (int) elements[i] : 0;
        }

        void put(int i, long v) {
            if (hasElement(i)) {
                elements[i] = narrowed(v);
            }
        }

        private long narrowed(long v) {
            switch (sort) {
                case 0:
                    return (byte) v;
                case 1:
                    return (short) v;
                case 2:
                    return (int) v;
                default:
                    return v;
            }
        }
    }

    private static final class Plug {
        int kind;
        int rank;
        int needs;
        int offers;
        int faults;
        int name;
        int strength;
        /** The name's letters from the left, so that such numbers go as the names go. */
        int nameOrder;
        int tally;
        int state;
        int age;

        void begin(int newKind, int newRank, int newNeeds, int newOffers, int newFaults, int newName) {
            kind = newKind;
            rank = newRank;
            needs = newNeeds;
            offers = newOffers;
            faults = newFaults;
            name = newName;
            strength = strengthByKind();
            nameOrder = lettersFromLeft();
            tally = 0;
            state = IDLE;
            age = NONE;
        }

        void takeFrom(Plug other) {
            begin(other.kind, other.rank, other.needs, other.offers, other.faults, other.name);
            tally = other.tally;
            state = other.state;
            age = other.age;
        }

        boolean needsService(int service) {
            return (needs >> service & 1) != 0;
        }

        boolean offersService(int service) {
            return (offers >> service & 1) != 0;
        }

        private int strengthByKind() {
            int eager = rank + Integer.bitCount(offers);
            int steady = Math.max(rank, 5);
            switch (kind) {
                case EAGER:
                    return eager;
                case STEADY:
                    return steady;
                case KEEN:
                    return 2 * eager;
                case SOUND:
                    return steady + 1;
                default:
                    return rank;
            }
        }

        boolean isOf(int wanted) {
            return wanted == PLAIN || wanted == kind
                || wanted == EAGER && kind == KEEN || wanted == STEADY && kind == SOUND;
        }

        int wordAs(int asKind) {
            switch (asKind) {
                case EAGER:
                case KEEN:
                    return Integer.bitCount(offers);
                case STEADY:
                case SOUND:
                    return strength;
                default:
                    return rank;
            }
        }

        private int lettersFromLeft() {
            int order = name;
            for (int i = 1; i < MOST_LETTERS && order < LEAST_LONGEST_NAME; i++) {
                order *= NAME_BASE;
            }
            return order;
        }
    }

    private static final class Hook {
        int plug;
        int point;
        int priority;
        int function;
        int k;

        void begin(int newPlug, int newPoint, int newPriority, int newFunction, int newK) {
            plug = newPlug;
            point = newPoint;
            priority = newPriority;
            function = newFunction;
            k = newK;
        }

        void takeFrom(Hook other) {
            begin(other.plug, other.point, other.priority, other.function, other.k);
        }
    }

    /** All that an image has. */
    private static final class Host {
        final Plug[] plugs = new Plug[MOST_PLUGS];
        final Hook[] hooks = new Hook[MOST_HOOKS];
        int plugCount = 0;
        int hookCount = 0;
        int clock = 0;
        int seed = 1;

        Host() {
            for (int p = 0; p < MOST_PLUGS; p++) {
                plugs[p] = new Plug();
            }
            for (int h = 0; h < MOST_HOOKS; h++) {
                hooks[h] = new Hook();
            }
        }

        void takeFrom(Host other) {
            for (int p = 0; p < MOST_PLUGS; p++) {
                plugs[p].takeFrom(other.plugs[p]);
            }
            for (int h = 0; h < MOST_HOOKS; h++) {
                hooks[h].takeFrom(other.hooks[h]);
            }
            plugCount = other.plugCount;
            hookCount = other.hookCount;
            clock = other.clock;
            seed = other.seed;
        }

        boolean hasPlug(int p) {
            return p >= 0 && p < plugCount;
        }

        boolean runs(int p) {
            return hasPlug(p) && plugs[p].state == RUNNING;
        }

        boolean hasName(int name) {
            for (int p = 0; p < plugCount; p++) {
                if (plugs[p].state != GONE && plugs[p].name == name) {
                    return true;
                }
            }
            return false;
        }

        int countIn(int state) {
            int count = 0;
            for (int p = 0; p < plugCount; p++) {
                if (plugs[p].state == state) {
                    count++;
                }
            }
            return count;
        }

        int runningBits() {
            int bits = 0;
            for (int p = 0; p < plugCount; p++) {
                if (plugs[p].state == RUNNING) {
                    bits |= 1 << p;
                }
            }
            return bits;
        }

        /** Those running that are older than p (bits). */
        int olderThan(int p) {
            if (!hasPlug(p)) {
                return 0;
            }
            int bits = 0;
            for (int q = 0; q < plugCount; q++) {
                if (plugs[q].state == RUNNING && plugs[q].age < plugs[p].age) {
                    bits |= 1 << q;
                }
            }
            return bits;
        }

        /** Those of some plug-ins (bits) that offer a service (bits). */
        int offering(int service, int among) {
            int bits = 0;
            for (int p = 0; p < plugCount; p++) {
                if ((among >> p & 1) != 0 && plugs[p].offersService(service)) {
                    bits |= 1 << p;
                }
            }
            return bits;
        }

        /**
         * Not kept, but found each time: what starts later is younger, and strengths stay, so a
         * binding changes only when its provider stops, and then to what this finds.
         */
        int providerFor(int p, int service) {
            int offers = offering(service, olderThan(p));
            int best = NONE;
            for (int q = 0; q < plugCount; q++) {
                boolean stands = (offers >> q & 1) != 0;
                if (stands && (best == NONE || providesBetter(plugs[q], plugs[best]))) {
                    best = q;
                }
            }
            return best;
        }

        private static boolean providesBetter(Plug plug, Plug than) {
            int more = plug.strength - than.strength;
            return more > 0 || more == 0 && plug.age < than.age;
        }

        int draw(int below) {
            seed = seed * 1103515245 + 12345;
            return below > 0 ? (seed >>> 16) % below : 0;
        }
    }

    /** What a start would come to: nothing is changed by making it. */
    private static final class Plan {
        private final Host host;
        final int[] started = new int[MOST_PLUGS];
        int startedCount = 0;
        /** The one whose fault ends the start. */
        int broken = NONE;
        final int[] causes = new int[CAUSE_PARTS * MOST_PLUGS];
        int causeCount = 0;
        private int runningBits = 0;
        private int startingBits = 0;

        Plan(Host ofHost) {
            host = ofHost;
        }

        /** Plans to start p, which exists and does not run; answers whether it starts. */
        boolean make(int p) {
            startedCount = 0;
            broken = NONE;
            causeCount = 0;
            runningBits = host.runningBits();
            startingBits = 0;
            return bring(p, 0);
        }

        private boolean bring(int p, int depth) {
            if (!host.hasPlug(p) || depth >= MOST_PLUGS || startedCount >= MOST_PLUGS) {
                return false;
            }
            if (host.plugs[p].state != IDLE) {
                return fails(depth, p, WHY_STATE, NONE);
            }
            startingBits |= 1 << p;
            for (int service = 0; service < SERVICES; service++) {
                if (host.plugs[p].needsService(service) && !bringOffer(p, service, depth)) {
                    return false;
                }
            }
            if (host.plugs[p].faults > 0) {
                broken = p;
                return fails(depth, p, WHY_FAULT, NONE);
            }
            startingBits &= ~(1 << p);
            runningBits |= 1 << p;
            started[startedCount] = p;
            startedCount++;
            return true;
        }

        private boolean bringOffer(int p, int service, int depth) {
            if (host.offering(service, runningBits) != 0) {
                return true;
            }
            int q = idleOffer(p, service);
            if (q == NONE) {
                return fails(depth, p, WHY_NO_OFFER, service);
            }
            if ((startingBits >> q & 1) != 0) {
                return fails(depth, p, WHY_CIRCLE, service);
            }
            return bring(q, depth + 1) || fails(depth, p, WHY_OTHER_FAILED, service);
        }

        /** Those that the plan has started are no choice here: none of them offers it. */
        private int idleOffer(int p, int service) {
            int best = NONE;
            for (int q = 0; q < host.plugCount; q++) {
                Plug plug = host.plugs[q];
                if (q != p && plug.state == IDLE && plug.offersService(service)
                    && (best == NONE || takenRather(plug, host.plugs[best]))) {
                    best = q;
                }
            }
            return best;
        }

        private static boolean takenRather(Plug plug, Plug than) {
            int more = plug.strength - than.strength;
            return more > 0 || more == 0 && plug.nameOrder < than.nameOrder;
        }

        /** The deepest cause comes first here, so it tells how many there are. */
        private boolean fails(int depth, int p, int why, int service) {
            int at = CAUSE_PARTS * depth;
            if (at >= 0 && at + 2 < causes.length) {
                causes[at] = p;
                causes[at + 1] = why;
                causes[at + 2] = service;
                causeCount = Math.max(causeCount, depth + 1);
            }
            return false;
        }
    }

    private static final class Waves {
        private final Host host;
        final int[] waveOf = new int[MOST_PLUGS];

        Waves(Host ofHost) {
            host = ofHost;
        }

        /** Finds the waves of p, which runs; answers how many are in them. */
        int spread(int p) {
            Arrays.fill(waveOf, NONE);
            if (!host.runs(p)) {
                return 0;
            }
            waveOf[p] = 0;
            int count = 1;
            int more = 1;
            for (int wave = 1; wave <= MOST_PLUGS && more > 0; wave++) {
                more = addWave(wave);
                count += more;
            }
            return count;
        }

        private int addWave(int wave) {
            // those of this wave still count as in none while it is made
            int left = leftBits();
            int count = 0;
            for (int p = 0; p < host.plugCount; p++) {
                if ((left >> p & 1) != 0 && lacksOffer(p, left)) {
                    waveOf[p] = wave;
                    count++;
                }
            }
            return count;
        }

        /** Those running and in no wave yet. */
        private int leftBits() {
            int bits = 0;
            for (int p = 0; p < host.plugCount; p++) {
                if (waveOf[p] == NONE && host.runs(p)) {
                    bits |= 1 << p;
                }
            }
            return bits;
        }

        private boolean lacksOffer(int p, int left) {
            int older = left & host.olderThan(p);
            for (int service = 0; service < SERVICES; service++) {
                if (host.plugs[p].needsService(service) && host.offering(service, older) == 0) {
                    return true;
                }
            }
            return false;
        }

        /** The youngest in the waves that still runs. */
        int youngestRunning() {
            int youngest = NONE;
            for (int p = 0; p < host.plugCount; p++) {
                if (host.runs(p) && waveOf[p] != NONE
                    && (youngest == NONE || host.plugs[youngest].age < host.plugs[p].age)) {
                    youngest = p;
                }
            }
            return youngest;
        }
    }

    /** A chain and the latest value that was sent through it. */
    private static final class Firing {
        private final Host host;
        final int[] chain = new int[MOST_HOOKS];
        int length = 0;
        int outcome = GAVE;
        /** What was given or thrown; 0 if it ended. */
        int value = 0;
        int ran = 0;
        final int[] trace = new int[TRACE_KEPT];
        /** Kept apart from the tallies, for these stay if nothing is given. */
        private final int[] notes = new int[MOST_PLUGS];

        Firing(Host ofHost) {
            host = ofHost;
        }

        /** Makes the chain of a point, without one hook (NONE: with all). */
        void gather(int point, int without) {
            length = 0;
            for (int h = 0; h < host.hookCount; h++) {
                Hook hook = host.hooks[h];
                if (h != without && hook.point == point && host.runs(hook.plug)) {
                    insert(h);
                }
            }
        }

        private void insert(int h) {
            if (length >= MOST_HOOKS) {
                return;
            }
            int at = length;
            while (at > 0 && runsAhead(host.hooks[h], host.hooks[chain[at - 1]])) {
                chain[at] = chain[at - 1];
                at--;
            }
            chain[at] = h;
            length++;
        }

        private boolean runsAhead(Hook hook, Hook of) {
            if (hook.priority != of.priority) {
                return hook.priority > of.priority;
            }
            return (host.olderThan(of.plug) >> hook.plug & 1) != 0;
        }

        void run(int x) {
            outcome = GAVE;
            ran = 0;
            Arrays.fill(notes, 0);
            value = ask(0, x);
        }

        boolean gives(int x, int y) {
            run(x);
            return outcome == GAVE && value == y;
        }

        void keepNotes() {
            for (int p = 0; p < host.plugCount; p++) {
                host.plugs[p].tally += notes[p];
            }
        }

        /**
         * What the hook at a place of the chain gives; x behind the last one. When the outcome is
         * no longer GAVE, the answer is what was thrown, or 0, and goes up as it is.
         */
        private int ask(int at, int x) {
            if (at < 0 || at >= length) {
                return x;
            }
            if (ran >= MOST_RUNS) {
                outcome = ENDED;
                return 0;
            }
            int h = chain[at];
            if (ran < TRACE_KEPT) {
                trace[ran] = h;
            }
            ran++;
            Hook hook = host.hooks[h];
            return looksFirst(hook.function) ? lookFirst(at, hook, x) : restFirst(at, hook, x);
        }

        private static boolean looksFirst(int function) {
            return function == GUARD || function == NOTE || function == THROW;
        }

        private int lookFirst(int at, Hook hook, int x) {
            if (hook.function == GUARD && Math.floorMod(x, 10) == Math.floorMod(hook.k, 10)) {
                return x;
            }
            if (hook.function == THROW && x < hook.k) {
                outcome = THREW;
                return x;
            }
            if (hook.function == NOTE && host.hasPlug(hook.plug)) {
                notes[hook.plug] += x;
            }
            return ask(at + 1, x);
        }

        /** What the rest is asked of; what is done with the rest's answer stands apart. */
        private static int handedOn(Hook hook, int x) {
            switch (hook.function) {
                case PLUS:
                    return x + hook.k;
                case SWAP:
                    return x ^ hook.k;
                default:
                    return x;
            }
        }

        private int restFirst(int at, Hook hook, int x) {
            int rest = ask(at + 1, handedOn(hook, x));
            if (outcome == THREW && hook.function == CATCH) {
                outcome = GAVE;
                return rest + hook.k;
            }
            if (outcome != GAVE) {
                return rest;
            }
            switch (hook.function) {
                case TIMES:
                    return rest * hook.k;
                case TWICE:
                    return ask(at + 1, rest);
                case SWAP:
                    return rest ^ hook.k;
                case COUNT:
                    return rest + ran;
                default:
                    return rest;
            }
        }
    }

    /** Reads a text into items, which become plug-ins only when the whole text stands. */
    private static final class TextReader {
        private final Host host;
        private final Plug[] items = new Plug[MOST_PLUGS];
        private int itemCount = 0;
        private Shelf text = new Shelf();
        private int at = 0;
        private int fault = NONE;

        TextReader(Host ofHost) {
            host = ofHost;
            for (int i = 0; i < MOST_PLUGS; i++) {
                items[i] = new Plug();
            }
        }

        /** Answers the fault of the text, NONE if it stands. */
        int parse(Shelf row) {
            text = row;
            itemCount = 0;
            at = 0;
            fault = NONE;
            boolean more = readItem();
            // the room for items ends this long before the bound does
            for (int i = 0; i < MOST_ELEMENTS && more && at < text.size; i++) {
                more = take(';') && readItem();
            }
            return fault;
        }

        int addItems() {
            int added = 0;
            for (int i = 0; i < itemCount && host.plugCount < MOST_PLUGS; i++) {
                host.plugs[host.plugCount].takeFrom(items[i]);
                host.plugCount++;
                added++;
            }
            return added;
        }

        private boolean readItem() {
            int place = at;
            if (!take('p') || !take('l') || !take('u') || !take('g')) {
                return false;
            }
            if (host.plugCount + itemCount >= MOST_PLUGS) {
                return failAt(place);
            }
            Plug item = items[itemCount];
            item.begin(PLAIN, 0, 0, 0, 0, 0);
            if (!readName(item) || !readNumbers(item) || !readMarks(item)) {
                return false;
            }
            itemCount++;
            return true;
        }

        private boolean readName(Plug item) {
            if (!take(' ')) {
                return false;
            }
            int place = at;
            for (int i = 0; i < MOST_LETTERS && isLetter(look()); i++) {
                item.name = item.name * NAME_BASE + look() - 'a' + 1;
                at++;
            }
            if (at == place) {
                return failAt(at);
            }
            if (!take(' ')) {
                return false;
            }
            if (host.hasName(item.name) || hasItemNamed(item.name)) {
                return failAt(place);
            }
            return true;
        }

        private boolean hasItemNamed(int name) {
            for (int i = 0; i < itemCount; i++) {
                if (items[i].name == name) {
                    return true;
                }
            }
            return false;
        }

        private boolean readNumbers(Plug item) {
            item.kind = takeDigit(KINDS - 1);
            if (item.kind == NONE || !take(' ')) {
                return false;
            }
            item.rank = takeDigit(MOST_RANK);
            return item.rank != NONE;
        }

        private boolean readMarks(Plug item) {
            boolean stands = true;
            for (int i = 0; i < MOST_ELEMENTS && stands && at < text.size && look() != ';'; i++) {
                stands = readMark(item);
            }
            return stands;
        }

        private boolean readMark(Plug item) {
            int sign = look();
            if (sign == '!' && item.faults < MOST_FAULTS) {
                item.faults++;
                at++;
                return true;
            }
            if (sign != '-' && sign != '+') {
                return failAt(at);
            }
            at++;
            int service = takeDigit(SERVICES - 1);
            if (service == NONE) {
                return false;
            }
            if (sign == '-') {
                item.needs |= 1 << service;
            } else {
                item.offers |= 1 << service;
            }
            return true;
        }

        /** The element at hand; NONE, which no text has, behind the last one. */
        private int look() {
            return text.hasElement(at) ? (int) text.elements[at] : NONE;
        }

        private static boolean isLetter(int sign) {
            return sign >= 'a' && sign < 'a' + LETTERS;
        }

        private boolean take(int sign) {
            if (look() != sign) {
                return failAt(at);
            }
            at++;
            return true;
        }

        private int takeDigit(int most) {
            int digit = look() - '0';
            if (digit < 0 || digit > most) {
                failAt(at);
                return NONE;
            }
            at++;
            return digit;
        }

        private boolean failAt(int place) {
            fault = place;
            return false;
        }
    }

    private static final class EventLog {
        private final int[] latest = new int[LOG_KEPT];
        int total = 0;

        void add(int event) {
            latest[total % LOG_KEPT] = event;
            total++;
        }

        int kept(int i) {
            int count = Math.min(total, LOG_KEPT);
            return i >= 0 && i < count ? latest[(total - count + i) % LOG_KEPT] : NONE;
        }
    }
}
