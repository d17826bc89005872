/** The edges of days, draws, images and numbers; each test tells its sentence. */
public final class DayEdgesTest {
    public static void main(String[] args) {
        fewestAndMostDays();
        noPlugs();
        allGone();
        drawsWrap();
        eachPlugAndDeed();
        deedsByState();
        daysLogButTellNoCauses();
        seedAtTheEdges();
        noImageYet();
        emptyImage();
        fullImage();
        imageOfGoneOnes();
        latestImage();
        shelvesBeyondTheImage();
        imageLeavesTheRest();
        refusedCallsLeaveTheImage();
        statusAtTheEdges();
        refusalsAreCounted();
        Checks.end("DayEdgesTest");
    }

    private static int next(int seed) {
        return seed * 1103515245 + 12345;
    }

    private static int drawn(int seed, int below) {
        return (seed >>> 16) % below;
    }

    /** "DAYS by draws, n (1 to 40)": two draws a day, the first and the last number of days. */
    private static void fewestAndMostDays() {
        for (int n : new int[] {1, 2, 39, 40}) {
            PluginChains x = Make.withOneRunning();
            int seed = 1;
            for (int i = 0; i < 2 * n; i++) {
                seed = next(seed);
            }
            Checks.holds("days(" + n + ")", x.days(n) >= 0);
            Checks.due("seed after " + n, x.status(6), seed);
        }
        PluginChains x = Make.withOneRunning();
        for (int n : new int[] {Look.LEAST, -1, 0, 41, Look.MOST}) {
            Checks.refused(x, "days(" + n + ")", -6, () -> x.days(n));
        }
    }

    /** "-5 no PLUG-IN; -6." */
    private static void noPlugs() {
        PluginChains x = new PluginChains();
        for (int n : new int[] {-1, 0, 1, 40, 41}) {
            Checks.refused(x, "days(" + n + ") of none", -5, () -> x.days(n));
        }
        x.image();
        Make.plain(x, "a", "", "");
        x.restore();
        Checks.refused(x, "days of none restored", -5, () -> x.days(1));
    }

    /** "p a DRAW below how many PLUG-INS": those that are GONE are PLUG-INS, and stay GONE. */
    private static void allGone() {
        PluginChains x = Make.withOneRunning();
        x.remove(0);
        Checks.due("days", x.days(40), 0);
        Look.stateIs(x, 0, 3);
        Checks.due("logged", x.status(9), 2);
        Checks.due("causes", x.status(7), 0);
    }

    /** "(an int, wrapping); its upper 16 bits, no sign, modulo n": seeds at the edges, twelve PLUG-INS. */
    private static void drawsWrap() {
        int[] seeds = {0, 1, -1, Look.LEAST, Look.MOST, 0xFFFF, 0x10000, -65536, 1234567, -7654321};
        for (int seed : seeds) {
            for (int plugs = 1; plugs <= 12; plugs++) {
                PluginChains x = new PluginChains();
                for (int p = 0; p < plugs; p++) {
                    x.plug(0, 0, 0, 0, 0, 1 + p);
                }
                x.seed(seed);
                int first = next(seed);
                int second = next(first);
                int started = drawn(second, 3) == 0 ? drawn(first, plugs) : -1;
                Checks.due("days(1)", x.days(1), started == -1 ? 0 : 1);
                Checks.due("seed", x.status(6), second);
                Checks.due("the one started", x.running(0), started);
                Checks.due("the log", x.log(0), started == -1 ? -1 : 100 + started);
            }
        }
    }

    /** "p a DRAW below how many PLUG-INS; a DRAW below 3": each of them is drawn at some time. */
    private static void eachPlugAndDeed() {
        int[][] times = new int[12][3];
        PluginChains x = new PluginChains();
        for (int p = 0; p < 12; p++) {
            x.plug(0, 0, 0, 0, 0, 1 + p);
        }
        boolean[] runs = new boolean[12];
        int seed = 1;
        int running = 0;
        for (int day = 0; day < 400; day++) {
            seed = next(seed);
            int p = drawn(seed, 12);
            seed = next(seed);
            int deed = drawn(seed, 3);
            times[p][deed]++;
            runs[p] = deed == 0 || deed == 2 && runs[p];
            running = 0;
            for (boolean one : runs) {
                running += one ? 1 : 0;
            }
            Checks.due("days(1)", x.days(1), running);
            Checks.due("state of " + p, x.plugOf(p, 0), runs[p] ? 1 : 0);
        }
        for (int p = 0; p < 12; p++) {
            for (int deed = 0; deed < 3; deed++) {
                Checks.holds("deed " + deed + " of " + p, times[p][deed] > 0);
            }
        }
    }

    /** A seed whose next two draws are for p of one and that deed. */
    private static int seedFor(int deed) {
        int seed = 0;
        while (drawn(next(next(seed)), 3) != deed) {
            seed++;
        }
        return seed;
    }

    /** "0: START p, if it isn't RUNNING ...; 1: STOP p, if it is RUNNING; 2: if it is BROKEN, it is IDLE." */
    private static void deedsByState() {
        int[][] due = {{1, 1, 2, 3}, {0, 0, 2, 3}, {0, 1, 0, 3}};
        for (int deed = 0; deed < 3; deed++) {
            for (int state = 0; state < 4; state++) {
                PluginChains x = new PluginChains();
                Make.plug(x, 0, 0, "", "", state == 2 ? 1 : 0, "a");
                if (state == 1 || state == 2) {
                    x.start(0);
                }
                if (state == 3) {
                    x.remove(0);
                }
                Look.stateIs(x, 0, state);
                int causes = x.status(7);
                x.seed(seedFor(deed));
                Checks.due("days(1)", x.days(1), due[deed][state] == 1 ? 1 : 0);
                Look.stateIs(x, 0, due[deed][state]);
                Checks.due("causes", x.status(7), causes);
                Checks.due("refusals", x.status(16), state == 2 ? 1 : 0);
            }
        }
    }

    /** "(FAILED or not; no CAUSES are kept)": a start that FAILED is rolled back and logged. */
    private static void daysLogButTellNoCauses() {
        PluginChains x = new PluginChains();
        Make.plug(x, 0, 0, "", "", 2, "a");
        x.seed(seedFor(0));
        Checks.due("days", x.days(1), 0);
        Look.stateIs(x, 0, 2);
        Checks.due("faults", x.plugOf(0, 5), 1);
        Look.logIs(x, 300);
        Look.causesAre(x);
        Checks.due("refusals", x.status(16), 0);
        x.start(0);
        Look.causesAre(x, 0, 1, -1);
        x.mend(0);
        x.seed(seedFor(0));
        x.days(1);
        Look.causesAre(x, 0, 1, -1);
        x.mend(0);
        x.seed(seedFor(0));
        Checks.due("days", x.days(1), 1);
        Look.causesAre(x, 0, 1, -1);
    }

    /** "SEED becomes v: what it was (nothing is refused)"; "SEED (1 at first)". */
    private static void seedAtTheEdges() {
        PluginChains x = new PluginChains();
        int was = 1;
        for (int v : new int[] {0, -1, Look.LEAST, Look.MOST, 1, 1}) {
            Checks.due("seed(" + v + ")", x.seed(v), was);
            Checks.due("status(6)", x.status(6), v);
            was = v;
        }
        for (int i = 11; i <= 17; i++) {
            Checks.due("status(" + i + ")", x.status(i), 0);
        }
    }

    /** "-6 there is none." */
    private static void noImageYet() {
        PluginChains x = Make.withOneRunning();
        Checks.refused(x, "restore", -6, () -> x.restore());
        Checks.refused(x, "restore again", -6, () -> x.restore());
        Checks.due("image", x.image(), 1);
        Checks.due("restore", x.restore(), 1);
        Checks.due("restore again", x.restore(), 1);
        Checks.due("refusals", x.status(16), 2);
    }

    /** "how many PLUG-INS": an image of none is an image. */
    private static void emptyImage() {
        PluginChains x = new PluginChains();
        Checks.due("image", x.image(), 0);
        for (int p = 0; p < 12; p++) {
            x.plug(4, 9, 0, 255, 0, 1 + p);
            x.start(p);
        }
        for (int h = 0; h < 24; h++) {
            x.hook(h % 12, h % 4, 9, 6, 9);
        }
        x.fire(0, 5);
        x.seed(8);
        x.show(0, 0);
        x.show(7, 11);
        Checks.due("restore", x.restore(), 0);
        int[] due = {0, 0, 0, 0, 0, 0, 1};
        for (int what = 0; what < due.length; what++) {
            Checks.due("status(" + what + ")", x.status(what), due[what]);
        }
        Checks.due("shelf", x.holds(0), -1);
        Checks.due("shelf", x.holds(7), -1);
        Look.chainIs(x, 0);
        Checks.due("plug", x.plug(0, 3, 1, 2, 0, 1), 0);
        Look.plugIs(x, 0, 0, 0, 3, 1, 2, 0, 3, 1);
        Checks.due("tally", x.tally(0), 0);
        Checks.due("age", x.age(0), -1);
        Checks.due("hook", x.hook(0, 2, -3, 4, 5), 0);
        int[] hook = {0, 2, 7, 4, 105};
        for (int what = 0; what < 5; what++) {
            Checks.due("hookOf", x.hookOf(0, what), hook[what]);
        }
    }

    /** "All is as THE IMAGE has it": twelve plug-ins, 24 hooks. */
    private static void fullImage() {
        PluginChains x = new PluginChains();
        for (int p = 0; p < 12; p++) {
            x.plug(p % 5, p % 10, p == 0 ? 0 : 1 << (p - 1) % 8, 1 << p % 8, p % 4 == 3 ? 2 : 0, 1 + p);
        }
        for (int h = 0; h < 24; h++) {
            x.hook(h % 12, h % 4, h % 7 - 3, 6, h - 9);
        }
        for (int p = 0; p < 12; p++) {
            x.start(p);
            if (p % 8 == 3) {
                x.mend(p);
                x.start(p);
                x.mend(p);
                x.start(p);
            }
        }
        x.fire(0, 5);
        x.fire(3, 6);
        x.seed(-3);
        Checks.holds("some run, some are broken", x.status(1) > 0 && x.status(2) > 0);
        Checks.due("image", x.image(), 12);
        String before = Dump.ofImage(x);
        x.fire(0, 9);
        x.days(40);
        x.remove(11);
        x.remove(0);
        x.fire(3, 9);
        Checks.holds("it has changed", !Dump.ofImage(x).equals(before));
        Checks.due("restore", x.restore(), 12);
        Checks.same("restored", Dump.ofImage(x), before);
        Checks.due("no room for more", x.plug(0, 0, 0, 0, 0, 26), -7);
        Checks.due("no room for more", x.hook(0, 0, 0, 0, 0), -7);
        x.restore();
        Checks.same("restored again", Dump.ofImage(x), before);
    }

    /** The same: one that is GONE runs again, with its hooks, and its name is taken again. */
    private static void imageOfGoneOnes() {
        PluginChains x = Make.withOneRunning();
        x.hook(0, 0, 0, 0, 5);
        x.image();
        x.remove(0);
        Checks.due("its name is free", Make.plain(x, "a", "", ""), 1);
        x.restore();
        Checks.due("running", x.running(0), 0);
        Look.fires(x, 0, 1, 0, 6);
        Checks.refused(x, "its name is taken", -6, () -> Make.plain(x, "a", "", ""));
        x.remove(0);
        x.image();
        x.restore();
        Look.stateIs(x, 0, 3);
        Checks.due("its name is free", Make.plain(x, "a", "", ""), 1);
    }

    /** "THE IMAGE ... is taken": a new one takes the place of the old one. */
    private static void latestImage() {
        PluginChains x = Make.withOneRunning();
        x.image();
        Make.plain(x, "b", "", "");
        x.start(1);
        Checks.due("image", x.image(), 2);
        x.remove(1);
        Checks.due("restore", x.restore(), 2);
        Look.runningAre(x, 0, 1);
        x.stop(0);
        Checks.due("image of what was restored and changed", x.image(), 2);
        x.start(0);
        x.restore();
        Look.runningAre(x, 1);
        Checks.due("clock", x.status(5), 2);
        x.start(0);
        Checks.due("the clock goes on from the image's", x.age(0), 2);
    }

    /** "SHELVES with PLUG-INS hold those of these numbers, or NOTHING". */
    private static void shelvesBeyondTheImage() {
        PluginChains x = Make.withOneRunning();
        Make.plain(x, "b", "", "");
        x.image();
        for (int p = 2; p < 12; p++) {
            x.plug(0, 0, 0, 0, 0, 1 + p);
        }
        int[] shown = {0, 1, 2, 3, 11, 11};
        for (int s = 0; s < shown.length; s++) {
            x.show(s, shown[s]);
        }
        Make.ints(x, 6, 9);
        x.remove(1);
        x.restore();
        int[] due = {0, 1, -1, -1, -1, -1, 102, -1};
        for (int s = 0; s < 8; s++) {
            Checks.due("holds(" + s + ")", x.holds(s), due[s]);
        }
        Checks.due("the row stays", x.element(6, 0), 9);
        Checks.refused(x, "says of nothing", -3, () -> x.says(2, 0));
        Checks.due("says of one that is back", x.says(1, 0), 1);
        x.plug(0, 7, 0, 0, 0, 9);
        Checks.due("a new one is not on the shelf", x.holds(2), -1);
        x.show(3, 2);
        x.image();
        x.restore();
        Checks.due("the last of the image", x.holds(3), 2);
    }

    /** "of all but SHELVES (and THE IMAGE, THE CAUSES, THE LOG, THE TRACE, what was given, REFUSALS, the FAULT)". */
    private static void imageLeavesTheRest() {
        PluginChains x = Make.withOneRunning();
        x.hook(0, 0, 0, 7, 0);
        x.image();
        Make.plain(x, "b", "7", "");
        x.start(1);
        x.fire(0, -5);
        Make.read(x, "plug c 0");
        Make.ints(x, 0, 4, 5);
        x.stop(0);
        int refused = x.status(16);
        x.restore();
        Look.causesAre(x, 1, 2, 7);
        Look.logIs(x, 100, 200);
        Checks.due("logged", x.status(9), 2);
        Checks.due("trace", x.trace(0), 0);
        Checks.due("ran", x.status(8), 1);
        Checks.due("given", x.given(), -5);
        Checks.due("refusals", x.status(16), refused);
        Checks.due("fault", x.fault(), 8);
        Look.elementsAre(x, 0, 4, 5, 0);
        Checks.due("the image stays", x.restore(), 1);
    }

    /** REFUSALS: "nothing changes": the image neither. */
    private static void refusedCallsLeaveTheImage() {
        PluginChains x = Make.withOneRunning();
        x.image();
        x.stop(0);
        x.stop(0);
        x.start(5);
        x.days(0);
        x.row(9, 0, 0);
        Checks.due("restore", x.restore(), 1);
        Look.runningAre(x, 0);
    }

    /** "How many: 0 PLUG-INS, ... NONE for another what." */
    private static void statusAtTheEdges() {
        PluginChains x = new PluginChains();
        for (int p = 0; p < 12; p++) {
            x.plug(0, 0, 0, 0, p % 3 == 1 ? 1 : 0, 1 + p);
            x.start(p);
        }
        x.remove(0);
        x.remove(11);
        x.mend(10);
        x.stop(9);
        x.hook(2, 1, 0, 0, 0);
        x.hook(2, 1, 0, 0, 0);
        x.fire(1, 0);
        x.seed(-9);
        int[] due = {12, 5, 3, 2, 2, 8, -9, 1, 2, 15, -1, 0, 0, 0, 0, 0, 4, 0, -1, -1};
        for (int what = 0; what < due.length; what++) {
            Checks.due("status(" + what + ")", x.status(what), due[what]);
        }
        for (int what : new int[] {Look.LEAST, -11, -1, 10, 18, 111, Look.MOST}) {
            Checks.due("status(" + what + ")", x.status(what), -1);
        }
    }

    /** "11 to 17: REFUSALS -1 to -7": each sort by itself, those of ten less with them. */
    private static void refusalsAreCounted() {
        PluginChains x = Make.withOneRunning();
        x.row(1, 0, 2);
        x.show(2, 0);
        for (int h = 0; h < 24; h++) {
            x.hook(0, 3, 0, 0, 0);
        }
        Runnable[] sorts = {
            () -> Checks.due("age", x.age(7), -11),
            () -> Checks.due("judge", x.judge(2, 0, 0), -12),
            () -> Checks.due("judge", x.judge(0, 0, 0), -13),
            () -> Checks.due("judge", x.judge(1, 0, -1), -14),
            () -> Checks.due("judge", x.judge(1, 0, 2), -15),
            () -> Checks.due("would", x.would(0, 0), -16),
            () -> Checks.due("hook", x.hook(0, 0, 0, 0, 0), -7),
        };
        for (int sort = 0; sort < 7; sort++) {
            for (int i = 0; i <= sort; i++) {
                sorts[sort].run();
            }
        }
        for (int sort = 0; sort < 7; sort++) {
            Checks.due("status(" + (11 + sort) + ")", x.status(11 + sort), sort + 1);
        }
        Checks.due("row", x.row(8, 0, 0), -1);
        Checks.due("set", x.set(2, 0, 0), -2);
        Checks.due("set", x.set(0, 0, 0), -3);
        Checks.due("row", x.row(0, 0, -1), -4);
        Checks.due("set", x.set(1, 2, 0), -5);
        Checks.due("start", x.start(0), -6);
        Checks.due("row", x.row(0, 0, 161), -7);
        for (int sort = 0; sort < 7; sort++) {
            Checks.due("status(" + (11 + sort) + ")", x.status(11 + sort), sort + 2);
        }
    }
}
