/**
 * REFUSALS: "the call answers the number; nothing changes but how many there were; the first that
 * fits, in this order". Each call that refuses is made with all sets of right and wrong arguments
 * (the last that is allowed and the first that is not among them); what it refuses must be the
 * first that fits, and counted, and the host must stay as it was.
 */
public final class RefusalsTest {
    private static final int LEAST = Integer.MIN_VALUE;
    private static final int MOST = Integer.MAX_VALUE;

    /** What the shelves of a host hold: see host(). */
    private static final int PLUG_SHELF = 0;
    private static final int INTS_SHELF = 1;
    private static final int LONGS_SHELF = 2;
    private static final int EMPTY_SHELF = 3;
    private static final int FULL_SHELF = 7;
    private static final int[] ANY_SHELF = {LEAST, -1, 8, MOST, PLUG_SHELF, INTS_SHELF, LONGS_SHELF, EMPTY_SHELF, FULL_SHELF};

    /** The states of a host's plug-ins: see host(). */
    private static final int RUNNING = 0;
    private static final int IDLE = 1;
    private static final int BROKEN = 2;
    private static final int GONE = 3;
    private static final int IMAGE_PLUGS = 2;

    private interface Call {
        long on(PluginChains x, int[] given);
    }

    /** The refusal that is due, 0 if none is. */
    private interface Rule {
        int due(int[] given);
    }

    public static void main(String[] args) {
        PluginChains x = host(false);
        PluginChains full = host(true);
        for (PluginChains host : new PluginChains[] {x, full}) {
            shelfCalls(host);
            copies(host);
            plugCalls(host, host == full);
            tellingCalls(host);
            startCalls(host);
            hookCalls(host, host == full);
            fireCalls(host);
            dayCalls(host);
            Checks.due("the image is as it was", host.restore(), IMAGE_PLUGS);
            noRefusals(host);
        }
        withoutPlugs();
        failedStarts();
        Checks.end("RefusalsTest");
    }

    /** A host with one running, one idle, one broken, one gone; a full one with twelve and 24 hooks. */
    private static PluginChains host(boolean full) {
        PluginChains x = new PluginChains();
        Make.plug(x, 1, 3, "", "01", 0, "a");
        Make.plug(x, 0, 4, "6", "2", 0, "b");
        x.image();
        Make.plug(x, 2, 0, "", "", 2, "c");
        Make.plug(x, 0, 0, "", "", 0, "d");
        x.start(RUNNING);
        x.start(BROKEN);
        x.start(IDLE);
        x.remove(GONE);
        x.hook(RUNNING, 0, 0, 6, 1);
        x.hook(RUNNING, 1, 0, 7, 5);
        x.fire(1, 3);
        x.fire(0, 3);
        for (int i = 0; i < 8 && full; i++) {
            x.plug(0, 0, 0, 0, 0, Make.name("k") + i);
        }
        for (int i = 0; i < 22 && full; i++) {
            x.hook(RUNNING, 2, 0, 0, i);
        }
        Make.text(x, 4, "plug");
        x.read(4);
        x.show(PLUG_SHELF, RUNNING);
        Make.ints(x, INTS_SHELF, 112, 0, 5);
        x.row(LONGS_SHELF, 3, 5);
        x.row(FULL_SHELF, 0, 160);
        return x;
    }

    private static int when(boolean fits, int refusal) {
        return fits ? refusal : 0;
    }

    /** The first that fits, in the document's order. */
    private static int first(int... refusals) {
        int first = 0;
        for (int refusal : refusals) {
            if (refusal != 0 && (first == 0 || refusal > first)) {
                first = refusal;
            }
        }
        return first;
    }

    private static int noShelf(int s) {
        return when(s < 0 || s > 7, -1);
    }

    private static int noRow(int s) {
        int empty = when(s == EMPTY_SHELF, -3);
        return first(noShelf(s), when(s == PLUG_SHELF, -2), empty);
    }

    private static int sizeOf(int s) {
        return s == INTS_SHELF ? 3 : s == LONGS_SHELF ? 5 : 160;
    }

    private static int noPlug(PluginChains x, int p) {
        return when(p < 0 || p >= x.status(0), -1);
    }

    private static int noPoint(int point) {
        return when(point < 0 || point > 3, -1);
    }

    private static int noService(int service) {
        return when(service < 0 || service > 7, -1);
    }

    private static int[] anyPlug(PluginChains x) {
        return new int[] {LEAST, -1, RUNNING, IDLE, BROKEN, GONE, x.status(0) - 1, x.status(0), 12, MOST};
    }

    /** Makes each call of the product of the choices that is to be refused; by is 0 or 10. */
    private static void all(PluginChains x, String name, int by, Call call, Rule rule, int[]... choices) {
        int[] at = new int[choices.length];
        int made = 0;
        do {
            int[] given = new int[choices.length];
            StringBuilder told = new StringBuilder(name);
            for (int i = 0; i < given.length; i++) {
                given[i] = choices[i][at[i]];
                told.append(i == 0 ? "(" : ", ").append(given[i]);
            }
            int due = rule.due(given);
            if (due != 0) {
                made++;
                Checks.refused(x, told.append(')').toString(), due - by, () -> call.on(x, given));
            }
        } while (next(at, choices));
        Checks.holds(name + " was refused", made > 0);
    }

    private static boolean next(int[] at, int[][] choices) {
        for (int i = 0; i < at.length; i++) {
            at[i]++;
            if (at[i] < choices[i].length) {
                return true;
            }
            at[i] = 0;
        }
        return false;
    }

    private static void shelfCalls(PluginChains x) {
        all(x, "row", 0, (h, g) -> h.row(g[0], g[1], g[2]),
            g -> first(noShelf(g[0]), when(g[2] < 0, -4), when(g[1] < 0 || g[1] > 3, -6), when(g[2] > 160, -7)),
            ANY_SHELF, new int[] {LEAST, -1, 0, 3, 4, MOST}, new int[] {LEAST, -1, 0, 160, 161, MOST});
        all(x, "set", 0, (h, g) -> h.set(g[0], g[1], 9),
            g -> first(noRow(g[0]), when(g[1] < 0 || g[1] >= sizeOf(g[0]), -5)),
            ANY_SHELF, new int[] {LEAST, -1, 0, 2, 3, 5, 160, MOST});
        all(x, "show", 0, (h, g) -> h.show(g[0], g[1]),
            g -> first(noShelf(g[0]), when(g[1] != -1, noPlug(x, g[1]))),
            new int[] {LEAST, -1, 0, 7, 8, MOST}, new int[] {LEAST, -2, -1, 0, x.status(0) - 1, x.status(0), 12, MOST});
        all(x, "says", 0, (h, g) -> h.says(g[0], g[1]),
            g -> first(noShelf(g[0]), when(g[1] < 0 || g[1] > 4, -1),
                when(g[0] == PLUG_SHELF && g[1] != 0 && g[1] != 1, -2),
                when(g[0] != PLUG_SHELF, g[0] == EMPTY_SHELF ? -3 : -2)),
            ANY_SHELF, new int[] {LEAST, -1, 0, 1, 2, 3, 4, 5, MOST});
        all(x, "read", 0, (h, g) -> h.read(g[0]), g -> noRow(g[0]), ANY_SHELF);
    }

    private static int sortOf(int s) {
        return s == LONGS_SHELF ? 3 : s == FULL_SHELF ? 0 : 2;
    }

    private static void copies(PluginChains x) {
        int[] places = {LEAST, -1, 0, 3, 4, 5, 6, MOST};
        all(x, "copy", 0, (h, g) -> h.copy(g[0], g[1], g[2], g[3], g[4]), g -> copyRule(g),
            new int[] {-1, 8, PLUG_SHELF, INTS_SHELF, LONGS_SHELF, EMPTY_SHELF},
            new int[] {-1, 8, PLUG_SHELF, INTS_SHELF, LONGS_SHELF, EMPTY_SHELF},
            places, new int[] {LEAST, -1, 0, 3, 4}, new int[] {LEAST, -1, 0, 1, 3, 4, MOST});
    }

    private static int copyRule(int[] g) {
        boolean both = noRow(g[0]) == 0 && noRow(g[1]) == 0;
        boolean twoSorts = both && sortOf(g[0]) != sortOf(g[1]);
        int ends = when(g[2] < 0 || g[3] < 0 || (long) g[2] + g[4] > sizeOf(g[0]) || (long) g[3] + g[4] > sizeOf(g[1]), -5);
        return first(noRow(g[0]), noRow(g[1]), when(twoSorts, -2), when(g[4] < 0, -4), ends);
    }

    private static void plugCalls(PluginChains x, boolean full) {
        int[] upTo9 = {-1, 0, 9, 10};
        int[] sets = {-1, 255, 256};
        int[] names = {LEAST, 0, 1, 4, 27, 531440, 531441};
        all(x, "plug", 0, (h, g) -> h.plug(g[0], g[1], g[2], g[3], g[4], g[5]),
            g -> first(when(g[0] < 0 || g[0] > 4, -1), when(g[1] < 0 || g[1] > 9, -6),
                when(g[2] < 0 || g[2] > 255, -6), when(g[3] < 0 || g[3] > 255, -6), when(g[4] < 0 || g[4] > 9, -6),
                when(g[5] != 4 && g[5] != 531440, -6), when(full, -7)),
            new int[] {-1, 0, 4, 5}, upTo9, sets, sets, upTo9, names);
        int[] extremes = {LEAST, 0, MOST};
        all(x, "plug", 0, (h, g) -> h.plug(g[0], g[1], g[2], g[3], g[4], 4),
            g -> first(when(g[0] != 0, -1), when(g[1] != 0 || g[2] != 0 || g[3] != 0 || g[4] != 0, -6), when(full, -7)),
            extremes, extremes, extremes, extremes, extremes);
    }

    private static void tellingCalls(PluginChains x) {
        int[] plugs = anyPlug(x);
        all(x, "plugOf", 0, (h, g) -> h.plugOf(g[0], g[1]),
            g -> when(noPlug(x, g[0]) != 0 || g[1] < 0 || g[1] > 7, -5),
            plugs, new int[] {LEAST, -1, 0, 7, 8, MOST});
        all(x, "age", 10, (h, g) -> h.age(g[0]), g -> noPlug(x, g[0]), plugs);
        all(x, "provider", 10, (h, g) -> h.provider(g[0], g[1]), g -> first(noPlug(x, g[0]), noService(g[1])),
            plugs, new int[] {LEAST, -1, 0, 7, 8, MOST});
        all(x, "offered", 0, (h, g) -> h.offered(g[0]), g -> noService(g[0]), new int[] {LEAST, -1, 0, 7, 8, MOST});
        Checks.due("causes", x.status(7), 1);
        all(x, "cause", 0, (h, g) -> h.cause(g[0], g[1]), g -> when(g[0] != 0 || g[1] < 0 || g[1] > 2, -5),
            new int[] {LEAST, -1, 0, 1, MOST}, new int[] {LEAST, -1, 0, 2, 3, MOST});
        int hooks = x.status(4);
        all(x, "hookOf", 0, (h, g) -> h.hookOf(g[0], g[1]),
            g -> when(g[0] < 0 || g[0] >= hooks || g[1] < 0 || g[1] > 4, -5),
            new int[] {LEAST, -1, 0, hooks - 1, hooks, 24, MOST}, new int[] {LEAST, -1, 0, 4, 5, MOST});
    }

    private static void startCalls(PluginChains x) {
        int[] plugs = anyPlug(x);
        all(x, "start", 0, (h, g) -> h.start(g[0]), g -> first(noPlug(x, g[0]), when(g[0] == RUNNING, -6)),
            new int[] {LEAST, -1, RUNNING, x.status(0), 12, MOST});
        all(x, "stop", 0, (h, g) -> h.stop(g[0]), g -> first(noPlug(x, g[0]), when(g[0] != RUNNING, -6)), plugs);
        all(x, "wave", 10, (h, g) -> h.wave(g[0], g[1]),
            g -> first(noPlug(x, g[0]), noPlug(x, g[1]), when(g[0] != RUNNING, -6)), plugs, plugs);
        all(x, "mend", 0, (h, g) -> h.mend(g[0]), g -> first(noPlug(x, g[0]), when(g[0] != BROKEN, -6)), plugs);
        all(x, "remove", 0, (h, g) -> h.remove(g[0]), g -> first(noPlug(x, g[0]), when(g[0] == GONE, -6)), plugs);
        all(x, "would", 10, (h, g) -> h.would(g[0], g[1]), g -> first(noPlug(x, g[0]), when(g[0] == RUNNING, -6)),
            plugs, new int[] {LEAST, -1, 0, MOST});
    }

    private static void hookCalls(PluginChains x, boolean full) {
        all(x, "hook", 0, (h, g) -> h.hook(g[0], g[1], g[2], g[3], g[4]),
            g -> first(noPlug(x, g[0]), when(g[0] == GONE, -1), noPoint(g[1]), when(g[2] < -9 || g[2] > 9, -6),
                when(g[3] < 0 || g[3] > 8, -6), when(g[4] < -99 || g[4] > 99, -6), when(full, -7)),
            new int[] {-1, RUNNING, IDLE, BROKEN, GONE, x.status(0)}, new int[] {-1, 0, 3, 4},
            new int[] {-10, -9, 9, 10}, new int[] {-1, 0, 8, 9}, new int[] {-100, -99, 99, 100});
        int[] extremes = {LEAST, 0, MOST};
        all(x, "hook", 0, (h, g) -> h.hook(g[0], g[1], g[2], g[3], g[4]),
            g -> first(when(g[0] != 0 || g[1] != 0, -1), when(g[2] != 0 || g[3] != 0 || g[4] != 0, -6), when(full, -7)),
            extremes, extremes, extremes, extremes, extremes);
    }

    private static void fireCalls(PluginChains x) {
        int[] points = {LEAST, -1, 0, 3, 4, MOST};
        int[] values = {LEAST, 0, MOST};
        all(x, "chain", 10, (h, g) -> h.chain(g[0], g[1]), g -> noPoint(g[0]), points, values);
        all(x, "fire", 0, (h, g) -> h.fire(g[0], g[1]), g -> noPoint(g[0]), points, values);
        all(x, "pure", 0, (h, g) -> h.pure(g[0], g[1], g[2]),
            g -> first(noPoint(g[0]), when(g[2] != 0 && g[2] != 1, -5)),
            points, values, new int[] {LEAST, -1, 0, 1, 2, MOST});
        all(x, "matter", 0, (h, g) -> h.matter(g[0], g[1]), g -> noPoint(g[0]), points, values);
        int[] ends = {LEAST, LEAST + 199, LEAST + 200, -200, 0, 1, 199, 200, MOST - 200, MOST - 199, MOST};
        all(x, "source", 0, (h, g) -> h.source(g[0], g[1], g[2], g[3]),
            g -> first(noPoint(g[0]), when(g[2] > g[3] || (long) g[3] - g[2] >= 200, -6)),
            points, values, ends, ends);
        all(x, "judge", 10, (h, g) -> h.judge(g[0], g[1], g[2]),
            g -> first(noRow(g[0]), noPoint(g[1]), when(g[2] < 0, -4), when(2L * g[2] > sizeOf(g[0]), -5), when(g[2] > 80, -6)),
            ANY_SHELF, points, new int[] {LEAST, -1, 0, 1, 2, 3, 80, 81, 1 << 30, MOST});
    }

    private static void dayCalls(PluginChains x) {
        all(x, "days", 0, (h, g) -> h.days(g[0]), g -> when(g[0] < 1 || g[0] > 40, -6),
            new int[] {LEAST, -1, 0, 1, 40, 41, MOST});
    }

    /** Calls that refuse nothing, whatever they are given. */
    private static void noRefusals(PluginChains x) {
        int[] before = new int[8];
        for (int i = 1; i <= 7; i++) {
            before[i] = x.status(10 + i);
        }
        for (int i : new int[] {LEAST, -2, -1, 0, 7, 8, 12, 29, 30, 39, 40, 160, MOST}) {
            for (int s : ANY_SHELF) {
                x.element(s, i);
            }
            x.holds(i);
            x.tally(i);
            x.running(i);
            x.trace(i);
            x.log(i);
            x.status(i);
            x.seed(i);
            x.fault();
            x.given();
            x.image();
            x.restore();
        }
        for (int i = 1; i <= 7; i++) {
            Checks.due("status(" + (10 + i) + ") stays", x.status(10 + i), before[i]);
        }
    }

    /** -5 stands ahead of -6 in days(); every plug-in is nobody. */
    private static void withoutPlugs() {
        PluginChains x = new PluginChains();
        int[] any = {LEAST, -1, 0, 1, 40, 41, MOST};
        all(x, "days", 0, (h, g) -> h.days(g[0]), g -> -5, any);
        all(x, "start", 0, (h, g) -> h.start(g[0]), g -> -1, any);
        all(x, "stop", 0, (h, g) -> h.stop(g[0]), g -> -1, any);
        all(x, "mend", 0, (h, g) -> h.mend(g[0]), g -> -1, any);
        all(x, "remove", 0, (h, g) -> h.remove(g[0]), g -> -1, any);
        all(x, "age", 10, (h, g) -> h.age(g[0]), g -> -1, any);
        all(x, "would", 10, (h, g) -> h.would(g[0], -1), g -> -1, any);
        all(x, "wave", 10, (h, g) -> h.wave(g[0], g[0]), g -> -1, any);
        all(x, "provider", 10, (h, g) -> h.provider(g[0], 0), g -> -1, any);
        all(x, "plugOf", 0, (h, g) -> h.plugOf(g[0], 0), g -> -5, any);
        all(x, "cause", 0, (h, g) -> h.cause(g[0], 0), g -> -5, any);
        all(x, "hookOf", 0, (h, g) -> h.hookOf(g[0], 0), g -> -5, any);
        all(x, "hook", 0, (h, g) -> h.hook(g[0], 0, 0, 0, 0), g -> -1, any);
        all(x, "restore", 0, (h, g) -> h.restore(), g -> -6, new int[] {0});
    }

    /** A start that FAILED is refused too, but what the document tells of it has changed. */
    private static void failedStarts() {
        PluginChains x = host(false);
        Checks.countedOnly(x, "start one broken", -6, () -> x.start(BROKEN));
        Look.causesAre(x, BROKEN, 1, -1);
        Checks.countedOnly(x, "start one gone", -6, () -> x.start(GONE));
        Look.causesAre(x, GONE, 1, -1);
        Checks.countedOnly(x, "start without an offer", -6, () -> x.start(IDLE));
        Look.causesAre(x, IDLE, 2, 6);
        x.mend(BROKEN);
        Checks.countedOnly(x, "start with a fault", -6, () -> x.start(BROKEN));
        Look.causesAre(x, BROKEN, 5, -1);
        Checks.due("faults", x.plugOf(BROKEN, 5), 0);
        Checks.due("state", x.plugOf(BROKEN, 0), 2);
    }
}
