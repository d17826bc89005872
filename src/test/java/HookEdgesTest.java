/** The edges of hooks, chains, fires, sources and tables; each test tells its sentence. */
public final class HookEdgesTest {
    private static final int LEAST = Look.LEAST;
    private static final int MOST = Look.MOST;
    private static final long TOLD = Look.TOLD;
    private static final int[] VALUES = {LEAST, LEAST + 1, -100, -99, -11, -10, -9, -1, 0, 1, 9, 10, 98, 99, 100, MOST - 1, MOST};

    public static void main(String[] args) {
        firstAndLastNumbers();
        twentyFourHooks();
        eachPriority();
        olderOnesFirst();
        onlyRunningOnes();
        emptyChain();
        oneHookOfEachFunction();
        twoHooksOfEachFunction();
        guardsModuloTen();
        throwsBelowK();
        catchesWrap();
        countsWrap();
        caughtByTheNearest();
        twoHundredRuns();
        nothingCatchesTheEnd();
        talliesStay();
        traceOfThirty();
        latestFire();
        pureAtTheEdges();
        matterAtTheEdges();
        matterOfOutcomes();
        sourceAtTheEdges();
        leastSource();
        judgeAtTheEdges();
        wrongTwos();
        Checks.end("HookEdgesTest");
    }

    /** "a POINT (0 to 3), PRIORITY (-9 to 9), a FUNCTION (0 to 8), k (-99 to 99)". */
    private static void firstAndLastNumbers() {
        PluginChains x = new PluginChains();
        for (int p = 0; p < 12; p++) {
            x.plug(0, 0, 0, 0, 0, 1 + p);
        }
        Checks.due("hook", x.hook(0, 0, -9, 0, -99), 0);
        Checks.due("hook", x.hook(11, 3, 9, 8, 99), 1);
        int[][] due = {{0, 0, 1, 0, 1}, {11, 3, 19, 8, 199}};
        for (int h = 0; h < 2; h++) {
            for (int what = 0; what < 5; what++) {
                Checks.due("hookOf(" + h + ", " + what + ")", x.hookOf(h, what), due[h][what]);
            }
        }
        Checks.refused(x, "hook of 12", -1, () -> x.hook(12, 0, 0, 0, 0));
        Checks.refused(x, "hook of -1", -1, () -> x.hook(-1, 0, 0, 0, 0));
        Checks.refused(x, "hook on 4", -1, () -> x.hook(0, 4, 0, 0, 0));
        Checks.refused(x, "hook on -1", -1, () -> x.hook(0, -1, 0, 0, 0));
        Checks.refused(x, "priority 10", -6, () -> x.hook(0, 0, 10, 0, 0));
        Checks.refused(x, "priority -10", -6, () -> x.hook(0, 0, -10, 0, 0));
        Checks.refused(x, "function 9", -6, () -> x.hook(0, 0, 0, 9, 0));
        Checks.refused(x, "function -1", -6, () -> x.hook(0, 0, 0, -1, 0));
        Checks.refused(x, "k 100", -6, () -> x.hook(0, 0, 0, 0, 100));
        Checks.refused(x, "k -100", -6, () -> x.hook(0, 0, 0, 0, -100));
    }

    /** "HOOKS have numbers, from 0 on, 24 at most": all on one POINT. */
    private static void twentyFourHooks() {
        PluginChains x = Make.withOneRunning();
        int[] all = new int[24];
        for (int h = 0; h < 24; h++) {
            Checks.due("hook", x.hook(0, 3, 0, 0, 1), h);
            all[h] = h;
        }
        Checks.refused(x, "a hook more", -7, () -> x.hook(0, 0, 0, 0, 0));
        Checks.due("how many", x.status(4), 24);
        Look.chainIs(x, 3, all);
        Look.chainIs(x, 2);
        Look.fires(x, 3, 5, 0, 29);
        Checks.due("ran", x.status(8), 24);
        for (int i = 0; i < 24; i++) {
            Checks.due("trace", x.trace(i), i);
        }
        Checks.due("trace behind the last", x.trace(24), -1);
        Checks.due("all matter", x.matter(3, 5), (1 << 24) - 1);
        Checks.due("the last", x.hookOf(23, 1), 3);
        Checks.refused(x, "behind the last", -5, () -> x.hookOf(24, 1));
        x.remove(0);
        Make.plain(x, "b", "", "");
        Checks.refused(x, "those of one gone count", -7, () -> x.hook(1, 0, 0, 0, 0));
        Checks.due("how many", x.status(4), 24);
    }

    /** "those of greater PRIORITY first", from 9 down to -9, "of these by numbers". */
    private static void eachPriority() {
        PluginChains x = Make.withOneRunning();
        for (int priority = -9; priority <= 9; priority++) {
            x.hook(0, 0, priority, 0, 0);
        }
        x.hook(0, 0, 0, 0, 0);
        x.hook(0, 0, -9, 0, 0);
        x.hook(0, 0, 9, 0, 0);
        Look.chainIs(x, 0, 18, 21, 17, 16, 15, 14, 13, 12, 11, 10, 9, 19, 8, 7, 6, 5, 4, 3, 2, 1, 0, 20);
        for (int i : new int[] {LEAST, -1, 22, 24, MOST}) {
            Checks.due("chain(0, " + i + ")", x.chain(0, i), -1);
        }
    }

    /** "of several those of the OLDER PLUG-IN": twelve of them. */
    private static void olderOnesFirst() {
        PluginChains x = new PluginChains();
        int[] due = new int[24];
        for (int p = 0; p < 12; p++) {
            x.plug(0, 0, 0, 0, 0, 1 + p);
            x.hook(p, 1, 0, 0, 0);
            x.hook(p, 1, 0, 0, 0);
        }
        for (int i = 0; i < 12; i++) {
            x.start(11 - i);
            due[2 * i] = 2 * (11 - i);
            due[2 * i + 1] = 2 * (11 - i) + 1;
        }
        Look.chainIs(x, 1, due);
        x.stop(11);
        x.start(11);
        Checks.due("one started again is the youngest", x.chain(1, 0), 20);
        Checks.due("one started again is the youngest", x.chain(1, 23), 23);
    }

    /** "HOOKS on it of PLUG-INS that are RUNNING": of none that are IDLE, BROKEN or GONE. */
    private static void onlyRunningOnes() {
        PluginChains x = new PluginChains();
        Make.plug(x, 0, 0, "", "", 1, "a");
        Make.plain(x, "b", "", "");
        x.hook(0, 0, 0, 0, 10);
        x.hook(1, 0, 0, 0, 1);
        Look.chainIs(x, 0);
        x.start(0);
        x.start(1);
        Look.chainIs(x, 0, 1);
        Checks.due("a hook of one broken", x.hook(0, 0, 9, 0, 5), 2);
        Look.fires(x, 0, 0, 0, 1);
        x.mend(0);
        Checks.due("a hook of one idle", x.hook(0, 0, 9, 0, 5), 3);
        Look.chainIs(x, 0, 1);
        x.start(0);
        Look.chainIs(x, 0, 2, 3, 1, 0);
        Look.fires(x, 0, 0, 0, 21);
        x.remove(1);
        Look.chainIs(x, 0, 2, 3, 0);
        Checks.refused(x, "a hook of one gone", -1, () -> x.hook(1, 0, 0, 0, 0));
    }

    /** "THE REST of the last HOOK of it is x itself": a CHAIN of none gives x. */
    private static void emptyChain() {
        PluginChains x = new PluginChains();
        for (int value : VALUES) {
            Look.fires(x, 3, value, 0, value);
            Checks.due("matter", x.matter(3, value), 0);
            Checks.due("source", x.source(3, value, value, value), TOLD + value);
        }
        Checks.due("ran", x.status(8), 0);
        Checks.due("trace", x.trace(0), -1);
    }

    /** What a hook gives whose rest gives x itself; throwing is told by the caller. */
    private static int alone(int function, int k, int x) {
        switch (function) {
            case 0:
                return x + k;
            case 1:
                return x * k;
            case 5:
                return x + 1;
            default:
                return x;
        }
    }

    /** "(all numbers wrapping)": each FUNCTION with the least and the greatest k and x. */
    private static void oneHookOfEachFunction() {
        for (int function = 0; function < 9; function++) {
            for (int k : new int[] {-99, -1, 0, 1, 99}) {
                PluginChains x = Make.withOneRunning();
                x.hook(0, 0, 0, function, k);
                for (int value : VALUES) {
                    boolean thrown = function == 7 && value < k;
                    Look.fires(x, 0, value, thrown ? 1 : 0, thrown ? value : alone(function, k, value));
                }
            }
        }
    }

    /** "REST of (x ^ k), ^ k", "REST of x, times k", "REST of (REST of x)": the rest is a PLUS, then a TIMES. */
    private static void twoHooksOfEachFunction() {
        for (int k : new int[] {-99, -1, 0, 1, 99}) {
            for (int value : VALUES) {
                int[] plus = {value + k + 99, (value + 99) * k, value + 198, value + 99, (value ^ k) + 99 ^ k,
                    value + 99 + 2, value + 99, value + 99, value + 99};
                int[] times = {(value + k) * 99, value * 99 * k, value * 99 * 99, value * 99, (value ^ k) * 99 ^ k,
                    value * 99 + 2, value * 99, value * 99, value * 99};
                for (int function = 0; function < 9; function++) {
                    boolean stays = function == 3 && Math.floorMod(value - (long) k, 10) == 0;
                    boolean thrown = function == 7 && value < k;
                    PluginChains x = Make.withOneRunning();
                    x.hook(0, 0, 1, function, k);
                    x.hook(0, 0, 0, 0, 99);
                    Look.fires(x, 0, value, thrown ? 1 : 0, stays || thrown ? value : plus[function]);
                    PluginChains y = Make.withOneRunning();
                    y.hook(0, 2, 0, function, k);
                    y.hook(0, 2, 0, 1, 99);
                    Look.fires(y, 2, value, thrown ? 1 : 0, stays || thrown ? value : times[function]);
                }
            }
        }
    }

    /** "x, if x is k modulo 10 (both from 0 to 9; of numbers below 0 what is left is made up to 10)". */
    private static void guardsModuloTen() {
        for (int k = -99; k <= 99; k++) {
            PluginChains x = Make.withOneRunning();
            x.hook(0, 0, 1, 3, k);
            x.hook(0, 0, 0, 1, 0);
            int last = (k % 10 + 10) % 10;
            for (int value = -21; value <= 21; value++) {
                boolean stays = (value + 30) % 10 == last;
                Checks.due("GUARD " + k + " of " + value, x.pure(0, value, 1), TOLD + (stays ? value : 0));
            }
            boolean leastStays = last == 2;
            Checks.due("GUARD " + k + " of the least", x.pure(0, LEAST, 1), leastStays ? TOLD + LEAST : TOLD);
            boolean mostStays = last == 7;
            Checks.due("GUARD " + k + " of the greatest", x.pure(0, MOST, 1), mostStays ? TOLD + MOST : TOLD);
        }
    }

    /** "if x is less than k, it THROWS x; else REST of x": k itself is not less. */
    private static void throwsBelowK() {
        for (int k : new int[] {-99, -1, 0, 1, 99}) {
            PluginChains x = Make.withOneRunning();
            x.hook(0, 0, 1, 7, k);
            x.hook(0, 0, 0, 1, 2);
            Look.fires(x, 0, k - 1, 1, k - 1);
            Checks.due("ran", x.status(8), 1);
            Look.fires(x, 0, k, 0, 2 * k);
            Checks.due("ran", x.status(8), 2);
            Look.fires(x, 0, k + 1, 0, 2 * k + 2);
            Look.fires(x, 0, LEAST, 1, LEAST);
            Look.fires(x, 0, MOST, 0, -2);
        }
    }

    /** "if that THROWS v: v + k", wrapping. */
    private static void catchesWrap() {
        for (int k : new int[] {-99, 0, 99}) {
            PluginChains x = Make.withOneRunning();
            x.hook(0, 0, 1, 8, k);
            x.hook(0, 0, 0, 7, 99);
            Look.fires(x, 0, LEAST, 0, LEAST + k);
            Look.fires(x, 0, 98, 0, 98 + k);
            Look.fires(x, 0, 99, 0, 99);
        }
    }

    /** "REST of x, then that and how many HOOKS ran till then in this FIRE", wrapping. */
    private static void countsWrap() {
        PluginChains x = Make.withOneRunning();
        x.hook(0, 0, 0, 5, 0);
        Look.fires(x, 0, MOST, 0, LEAST);
        Look.fires(x, 0, MOST, 0, LEAST);
        x.hook(0, 0, 9, 6, 0);
        x.hook(0, 0, -9, 8, 0);
        x.hook(0, 0, -9, 7, -99);
        Look.fires(x, 0, MOST, 0, MOST + 4);
        Look.fires(x, 0, LEAST, 0, LEAST + 4);
    }

    /** "CATCH: REST of x; if that THROWS v": what the nearest CATCH caught is no longer thrown. */
    private static void caughtByTheNearest() {
        PluginChains x = Make.withOneRunning();
        x.hook(0, 0, 9, 8, 40);
        x.hook(0, 0, 8, 1, 2);
        x.hook(0, 0, 7, 8, 3);
        x.hook(0, 0, 6, 7, 0);
        Look.fires(x, 0, -5, 0, -4);
        Look.fires(x, 0, 5, 0, 10);
        PluginChains y = Make.withOneRunning();
        y.hook(0, 0, 9, 7, 0);
        y.hook(0, 0, 8, 8, 3);
        Look.fires(y, 0, -1, 1, -1);
        Look.fires(y, 0, 0, 0, 0);
        PluginChains z = Make.withOneRunning();
        z.hook(0, 0, 9, 8, 50);
        z.hook(0, 0, 8, 2, 0);
        z.hook(0, 0, 7, 0, -10);
        z.hook(0, 0, 6, 7, 0);
        Look.fires(z, 0, 9, 0, 49);
        Checks.due("the first of two asked threw", z.status(8), 4);
        Look.fires(z, 0, 19, 0, 49);
        Checks.due("the second of two asked threw", z.status(8), 6);
        Look.fires(z, 0, 20, 0, 0);
    }

    /** "A HOOK runs each time it is asked; the 201st that would run ends the FIRE". */
    private static void twoHundredRuns() {
        for (int extra = 0; extra <= 12; extra++) {
            PluginChains x = Make.withOneRunning();
            for (int i = 0; i < extra; i++) {
                x.hook(0, 0, 9, 0, 1);
            }
            for (int i = 0; i < 6; i++) {
                x.hook(0, 0, 0, 2, 0);
            }
            x.hook(0, 0, -9, 0, 1);
            x.hook(0, 0, -9, 0, 1);
            int runs = extra + 63 + 128;
            boolean ends = runs > 200;
            Look.fires(x, 0, 5, ends ? 2 : 0, ends ? 0 : 5 + extra + 128);
            Checks.due("ran", x.status(8), ends ? 200 : runs);
            x.fire(1, 0);
            Checks.due("ran, counted anew", x.status(8), 0);
            Look.fires(x, 0, 5, ends ? 2 : 0, ends ? 0 : 5 + extra + 128);
        }
    }

    /** "(nothing catches that)": no CATCH, wherever it stands; a THROW behind it is never asked. */
    private static void nothingCatchesTheEnd() {
        PluginChains x = Make.withOneRunning();
        x.hook(0, 0, 9, 8, 7);
        for (int i = 0; i < 8; i++) {
            x.hook(0, 0, 8, 2, 0);
            x.hook(0, 0, 8, 8, 7);
        }
        x.hook(0, 0, 7, 7, 0);
        Look.fires(x, 0, 1, 2, 0);
        Checks.due("ran", x.status(8), 200);
        Look.fires(x, 0, -1, 2, 0);
        Checks.due("pure tells no value", x.pure(0, LEAST, 1), TOLD);
        Checks.due("given", x.given(), 0);
    }

    /** "TALLIES stay as they were if it THROWS or ENDED": each of several plug-ins. */
    private static void talliesStay() {
        PluginChains x = new PluginChains();
        for (int p = 0; p < 12; p++) {
            x.plug(0, 0, 0, 0, 0, 1 + p);
            x.start(p);
            x.hook(p, 0, 0, 6, 0);
        }
        Look.fires(x, 0, 3, 0, 3);
        x.hook(11, 0, -9, 7, 3);
        Look.fires(x, 0, 2, 1, 2);
        for (int p = 0; p < 12; p++) {
            Checks.due("tally", x.tally(p), 3);
        }
        Look.fires(x, 0, 3, 0, 3);
        for (int i = 0; i < 8; i++) {
            x.hook(0, 0, -8, 2, 0);
        }
        Look.fires(x, 0, 5, 2, 0);
        x.matter(0, 5);
        x.source(0, 5, 0, 9);
        for (int p = 0; p < 12; p++) {
            Checks.due("tally", x.tally(p), 6);
        }
        PluginChains y = Make.withOneRunning();
        y.hook(0, 0, 9, 8, 1);
        y.hook(0, 0, 8, 6, 0);
        y.hook(0, 0, 7, 7, 0);
        Look.fires(y, 0, -4, 0, -3);
        Checks.due("tally of one that was caught", y.tally(0), -4);
    }

    /** "in that order; the first 30": 29, 30 and 31 that ran, by a TWICE ahead of 14. */
    private static void traceOfThirty() {
        for (int ahead = 0; ahead <= 3; ahead++) {
            PluginChains x = Make.withOneRunning();
            for (int h = 0; h < ahead + 15; h++) {
                x.hook(0, 0, 0, h == ahead ? 2 : 0, 0);
            }
            Look.fires(x, 0, 1, 0, 1);
            int ran = ahead + 1 + 28;
            Checks.due("ran", x.status(8), ran);
            for (int i = 0; i < ran; i++) {
                int due = i < ahead + 15 ? i : i - 14;
                Checks.due("trace(" + i + ") of " + ran, x.trace(i), i < 30 ? due : -1);
            }
            for (int i : new int[] {LEAST, -1, ran, 30, 31, 200, MOST}) {
                Checks.due("trace(" + i + ") of " + ran, x.trace(i), -1);
            }
        }
    }

    /** "the latest fire()": given, THE TRACE and what ran; none yet; a refused one leaves them. */
    private static void latestFire() {
        PluginChains x = Make.withOneRunning();
        Checks.due("given, none yet", x.given(), 0);
        Checks.due("ran, none yet", x.status(8), 0);
        Checks.due("trace, none yet", x.trace(0), -1);
        x.hook(0, 0, 0, 7, 0);
        x.hook(0, 1, 0, 0, 1);
        x.hook(0, 1, 0, 0, 1);
        x.fire(1, 5);
        Checks.due("given", x.given(), 7);
        Checks.refused(x, "fire on 4", -1, () -> x.fire(4, 9));
        Checks.refused(x, "fire on -1", -1, () -> x.fire(-1, 9));
        x.pure(0, -9, 1);
        x.matter(0, -9);
        x.source(0, 3, 0, 9);
        Checks.due("given by the latest", x.given(), 7);
        Checks.due("ran", x.status(8), 2);
        Checks.due("trace", x.trace(0), 1);
        Checks.due("trace", x.trace(1), 2);
        x.fire(0, -9);
        Checks.due("thrown by the latest", x.given(), -9);
        Checks.due("trace", x.trace(0), 0);
        Checks.due("trace", x.trace(1), -1);
        x.stop(0);
        Checks.due("trace stays", x.trace(0), 0);
        x.fire(2, 0);
        Checks.due("trace of none", x.trace(0), -1);
    }

    /** "10,000,000,000 and what it would give or THROW (1; of one that would END 10,000,000,000)". */
    private static void pureAtTheEdges() {
        PluginChains x = Make.withOneRunning();
        x.hook(0, 0, 0, 7, 0);
        x.hook(0, 1, 0, 0, 0);
        for (int i = 0; i < 8; i++) {
            x.hook(0, 2, 0, 2, 0);
        }
        for (int value : VALUES) {
            Checks.due("pure", x.pure(0, value, 0), value < 0 ? 1 : 0);
            Checks.due("pure", x.pure(0, value, 1), TOLD + value);
            Checks.due("pure", x.pure(1, value, 0), 0);
            Checks.due("pure", x.pure(1, value, 1), TOLD + value);
            Checks.due("pure", x.pure(2, value, 0), 2);
            Checks.due("pure", x.pure(2, value, 1), TOLD);
            Checks.due("pure", x.pure(3, value, 1), TOLD + value);
        }
        Checks.refused(x, "pure what 2", -5, () -> x.pure(2, 0, 2));
        Checks.refused(x, "pure what -1", -5, () -> x.pure(2, 0, -1));
        Checks.refused(x, "pure on 4", -1, () -> x.pure(4, 0, 2));
        Checks.due("given", x.given(), 0);
    }

    /** "HOOKS (bits) of a CHAIN without which": the first and the last of 24, on this POINT alone. */
    private static void matterAtTheEdges() {
        PluginChains x = Make.withOneRunning();
        x.hook(0, 0, 0, 0, 1);
        for (int h = 1; h < 23; h++) {
            x.hook(0, h % 2, 0, 0, 0);
        }
        x.hook(0, 0, 0, 0, 1);
        Checks.due("the first and the last", x.matter(0, 7), 1 << 23 | 1);
        Checks.due("none of those that add 0", x.matter(1, 7), 0);
        Checks.due("of a chain of none", x.matter(2, 7), 0);
        x.stop(0);
        Checks.due("of those of one idle", x.matter(0, 7), 0);
        Checks.refused(x, "matter on 4", -1, () -> x.matter(4, 0));
        Checks.refused(x, "matter on -1", -1, () -> x.matter(-1, 0));
    }

    /** "the FIRE would give, THROW or END otherwise": the same number given, not thrown, counts. */
    private static void matterOfOutcomes() {
        PluginChains x = Make.withOneRunning();
        x.hook(0, 0, 9, 7, 5);
        Checks.due("throws, or gives the same", x.matter(0, 4), 1);
        Checks.due("gives, or gives the same", x.matter(0, 5), 0);
        x.hook(0, 0, 9, 7, 5);
        Checks.due("throws the same without either", x.matter(0, 4), 0);
        PluginChains y = Make.withOneRunning();
        for (int i = 0; i < 6; i++) {
            y.hook(0, 0, 8, 2, 0);
        }
        y.hook(0, 0, 0, 1, 0);
        y.hook(0, 0, 0, 1, 0);
        for (int i = 0; i < 9; i++) {
            y.hook(0, 0, 9, 0, 0);
        }
        Checks.due("gives 0 by 200 that run", y.pure(0, 0, 0), 0);
        Checks.due("none matters", y.matter(0, 0), 0);
        y.hook(0, 0, 9, 0, 0);
        Checks.due("ends by one more", y.pure(0, 0, 0), 2);
        Checks.due("ends, or gives 0", y.matter(0, 0), (1 << 18) - 1);
        y.hook(0, 0, 9, 0, 0);
        // without one that runs once there are still 201
        Checks.due("ends without one of those that run once", y.matter(0, 0), (1 << 8) - 1);
    }

    /** "-6 from above to, or 200 apart or more": 199 apart is the most; "the least x", "0: none". */
    private static void sourceAtTheEdges() {
        PluginChains x = Make.withOneRunning();
        Checks.due("from is to", x.source(0, 5, 5, 5), TOLD + 5);
        Checks.due("the first", x.source(0, -100, -100, 99), TOLD - 100);
        Checks.due("the last of 200", x.source(0, 99, -100, 99), TOLD + 99);
        Checks.due("none ahead of the first", x.source(0, -101, -100, 99), 0);
        Checks.due("none behind the last", x.source(0, 100, -100, 99), 0);
        Checks.due("the greatest", x.source(0, MOST, MOST - 199, MOST), TOLD + MOST);
        Checks.due("the greatest alone", x.source(0, MOST, MOST, MOST), TOLD + MOST);
        Checks.due("none up to the greatest", x.source(0, LEAST, MOST - 199, MOST), 0);
        Checks.due("the least", x.source(0, LEAST, LEAST, LEAST + 199), TOLD + LEAST);
        Checks.due("none from the least", x.source(0, MOST, LEAST, LEAST + 199), 0);
        Checks.due("minus one", x.source(0, -1, -1, -1), TOLD - 1);
        Checks.refused(x, "200 apart", -6, () -> x.source(0, 5, -100, 100));
        Checks.refused(x, "200 apart at the greatest", -6, () -> x.source(0, 5, MOST - 200, MOST));
        Checks.refused(x, "200 apart at the least", -6, () -> x.source(0, 5, LEAST, LEAST + 200));
        Checks.refused(x, "from one above to", -6, () -> x.source(0, 5, 6, 5));
        Checks.refused(x, "all apart", -6, () -> x.source(0, 5, LEAST, MOST));
        Checks.refused(x, "all above", -6, () -> x.source(0, 5, MOST, LEAST));
        Checks.refused(x, "from above to on no point", -1, () -> x.source(4, 5, 6, 5));
    }

    /** "the least x ... of which a FIRE gives y": of several; not what it THROWS; not where it ENDED. */
    private static void leastSource() {
        PluginChains x = Make.withOneRunning();
        x.hook(0, 0, 0, 1, 0);
        Checks.due("of all that give 0", x.source(0, 0, -7, 7), TOLD - 7);
        x.hook(0, 1, 9, 7, 0);
        Checks.due("what is thrown is not given", x.source(1, -1, -5, 5), 0);
        Checks.due("what is given", x.source(1, 0, -5, 5), TOLD);
        for (int i = 0; i < 8; i++) {
            x.hook(0, 2, 0, 2, 0);
        }
        x.hook(0, 2, 9, 3, 4);
        Checks.due("what ended gives no 0", x.source(2, 0, -5, 5), 0);
        Checks.due("what is guarded", x.source(2, 4, -5, 5), TOLD + 4);
    }

    /** "the first n twos (0 to 80)"; "-5 fewer elements": 2 n that there are, and one fewer. */
    private static void judgeAtTheEdges() {
        PluginChains x = Make.withOneRunning();
        for (int size : new int[] {0, 1, 2, 3, 158, 159, 160}) {
            x.row(0, 2, size);
            int most = size / 2;
            Checks.due("judge none", x.judge(0, 0, 0), -1);
            Checks.due("judge all", x.judge(0, 0, most), -1);
            Checks.refused(x, "judge one more", -15, () -> x.judge(0, 0, most + 1));
            Checks.refused(x, "judge -1", -14, () -> x.judge(0, 0, -1));
            Checks.refused(x, "judge 81", -15, () -> x.judge(0, 0, 81));
            Checks.refused(x, "judge the greatest", -15, () -> x.judge(0, 0, MOST));
            Checks.refused(x, "judge the least", -14, () -> x.judge(0, 0, LEAST));
            Checks.refused(x, "judge half of all numbers", -15, () -> x.judge(0, 0, 1 << 31 - 1));
        }
    }

    /** "WRONG: the first two for which it gives, THROWS or ENDS otherwise; NONE." */
    private static void wrongTwos() {
        PluginChains x = Make.withOneRunning();
        x.row(0, 2, 160);
        x.set(0, 159, 1);
        Checks.due("the last of 80", x.judge(0, 0, 80), 79);
        Checks.due("not of 79", x.judge(0, 0, 79), -1);
        x.set(0, 1, 1);
        Checks.due("the first of 80", x.judge(0, 0, 80), 0);
        Checks.due("of none", x.judge(0, 0, 0), -1);
        x.hook(0, 1, 0, 7, 0);
        Make.ints(x, 1, 0, 0, -1, -1);
        Checks.due("what is thrown is not given", x.judge(1, 1, 2), 1);
        for (int i = 0; i < 8; i++) {
            x.hook(0, 2, 0, 2, 0);
        }
        Checks.due("what ended is no 0", x.judge(1, 2, 1), 0);
        Make.ints(x, 1, LEAST, LEAST, MOST, MOST);
        Checks.due("the least and the greatest", x.judge(1, 0, 2), -1);
    }
}
