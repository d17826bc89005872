/** Promises 25 to 34: hooks, chains, values fired through. */
public final class HooksTest {
    public static void main(String[] args) {
        hooks();
        hookRefusals();
        chains();
        chainRefusals();
        functions();
        plusAsksRestOfSum();
        onlyPlusAndSwapHandOnAnother();
        functionsWrap();
        guards();
        catches();
        counts();
        notes();
        ends();
        fireRefusals();
        traces();
        pures();
        matters();
        sources();
        sourceEdges();
        judges();
        judgeRefusals();
        Checks.end("HooksTest");
    }

    private static void hooks() {
        PluginChains x = Make.withOneRunning();
        Make.plain(x, "b", "", "");
        Checks.due("hook", x.hook(1, 3, -9, 8, -99), 0);
        Checks.due("hook", x.hook(0, 0, 9, 0, 99), 1);
        int[][] due = {{1, 3, 1, 8, 1}, {0, 0, 19, 0, 199}};
        for (int h = 0; h < 2; h++) {
            for (int what = 0; what < 5; what++) {
                Checks.due("hookOf(" + h + ", " + what + ")", x.hookOf(h, what), due[h][what]);
            }
        }
        Checks.due("status(4)", x.status(4), 2);
        Checks.refused(x, "hookOf 2", -5, () -> x.hookOf(2, 0));
        Checks.refused(x, "hookOf -1", -5, () -> x.hookOf(-1, 0));
        Checks.refused(x, "hookOf what 5", -5, () -> x.hookOf(0, 5));
        Checks.refused(x, "hookOf what -1", -5, () -> x.hookOf(0, -1));
        for (int h = 2; h < 24; h++) {
            Checks.due("hook", x.hook(0, 0, 0, 0, 0), h);
        }
        Checks.refused(x, "a hook more", -7, () -> x.hook(0, 0, 0, 0, 0));
        Checks.refused(x, "a wrong hook more", -6, () -> x.hook(0, 0, 10, 0, 0));
        Checks.refused(x, "nobody's hook more", -1, () -> x.hook(2, 0, 10, 0, 0));
    }

    private static void hookRefusals() {
        PluginChains x = Make.withOneRunning();
        Checks.refused(x, "hook of 1", -1, () -> x.hook(1, 0, 10, 9, 100));
        Checks.refused(x, "hook of -1", -1, () -> x.hook(-1, 0, 0, 0, 0));
        Checks.refused(x, "hook on point 4", -1, () -> x.hook(0, 4, 10, 0, 0));
        Checks.refused(x, "hook on point -1", -1, () -> x.hook(0, -1, 0, 0, 0));
        Checks.refused(x, "hook priority 10", -6, () -> x.hook(0, 0, 10, 0, 0));
        Checks.refused(x, "hook priority -10", -6, () -> x.hook(0, 0, -10, 0, 0));
        Checks.refused(x, "hook function 9", -6, () -> x.hook(0, 0, 0, 9, 0));
        Checks.refused(x, "hook function -1", -6, () -> x.hook(0, 0, 0, -1, 0));
        Checks.refused(x, "hook k 100", -6, () -> x.hook(0, 0, 0, 0, 100));
        Checks.refused(x, "hook k -100", -6, () -> x.hook(0, 0, 0, 0, -100));
        x.remove(0);
        Checks.refused(x, "hook of one gone", -1, () -> x.hook(0, 0, 0, 0, 0));
    }

    private static void chains() {
        PluginChains x = new PluginChains();
        for (char c = 'a'; c < 'd'; c++) {
            Make.plain(x, "" + c, "", "");
        }
        int[][] made = {{0, 1}, {1, 1}, {0, 1}, {2, 9}, {1, 2}, {0, -9}, {1, 1}};
        for (int[] hook : made) {
            x.hook(hook[0], 2, hook[1], 0, 0);
        }
        x.hook(0, 1, 0, 0, 0);
        Look.chainIs(x, 2);
        x.start(1);
        Look.chainIs(x, 2, 4, 1, 6);
        x.start(0);
        Look.chainIs(x, 2, 4, 1, 6, 0, 2, 5);
        x.start(2);
        Look.chainIs(x, 2, 3, 4, 1, 6, 0, 2, 5);
        x.stop(1);
        Look.chainIs(x, 2, 3, 0, 2, 5);
        x.start(1);
        Look.chainIs(x, 2, 3, 4, 0, 2, 1, 6, 5);
        Look.chainIs(x, 1, 7);
        Look.chainIs(x, 0);
        Checks.due("chain(2, -1)", x.chain(2, -1), -1);
    }

    private static void chainRefusals() {
        PluginChains x = Make.withOneRunning();
        Checks.refused(x, "chain of point 4", -11, () -> x.chain(4, 0));
        Checks.refused(x, "chain of point -1", -11, () -> x.chain(-1, 0));
    }

    /** A host with a hook of the function ahead of one that is times 3. */
    private static PluginChains aheadOfTimes(int function, int k) {
        PluginChains x = Make.withOneRunning();
        x.hook(0, 0, 1, function, k);
        x.hook(0, 0, 0, 1, 3);
        return x;
    }

    private static void functions() {
        Look.fires(new PluginChains(), 0, 7, 0, 7);
        Look.fires(aheadOfTimes(0, -5), 0, 7, 0, 6);
        Look.fires(aheadOfTimes(1, -5), 0, 7, 0, -105);
        Look.fires(aheadOfTimes(2, 0), 0, 7, 0, 63);
        Look.fires(aheadOfTimes(3, 7), 0, 7, 0, 7);
        Look.fires(aheadOfTimes(3, 8), 0, 7, 0, 21);
        Look.fires(aheadOfTimes(4, 5), 0, 7, 0, 6 ^ 5);
        Look.fires(aheadOfTimes(4, -5), 0, 7, 0, (7 ^ -5) * 3 ^ -5);
        Look.fires(aheadOfTimes(5, 9), 0, 7, 0, 23);
        Look.fires(aheadOfTimes(6, 9), 0, 7, 0, 21);
        Look.fires(aheadOfTimes(7, 8), 0, 7, 1, 7);
        Look.fires(aheadOfTimes(7, 7), 0, 7, 0, 21);
        Look.fires(aheadOfTimes(8, 9), 0, 7, 0, 21);
    }

    /** A host with a PLUS ahead of a hook of the function. */
    private static PluginChains behindPlus(int plus, int function, int k) {
        PluginChains x = Make.withOneRunning();
        x.hook(0, 0, 1, 0, plus);
        x.hook(0, 0, 0, function, k);
        return x;
    }

    private static void plusAsksRestOfSum() {
        Look.fires(behindPlus(-5, 0, 9), 0, 7, 0, 11);
        Look.fires(behindPlus(-5, 1, 3), 0, 7, 0, 6);
        Look.fires(behindPlus(-5, 3, 7), 0, 7, 0, 2);
        Look.fires(behindPlus(-5, 4, 6), 0, 7, 0, 2);
        Look.fires(behindPlus(-5, 5, 0), 0, 7, 0, 4);
        Look.fires(behindPlus(-5, 7, 3), 0, 7, 1, 2);
        Look.fires(behindPlus(-5, 7, 2), 0, 7, 0, 2);
        Look.fires(behindPlus(5, 7, 8), 0, 3, 0, 8);
        Look.fires(behindPlus(99, 1, 2), 0, Look.MOST, 0, (Look.MOST + 99) * 2);
        PluginChains noted = behindPlus(-5, 6, 0);
        Look.fires(noted, 0, 7, 0, 2);
        Checks.due("a NOTE behind a PLUS", noted.tally(0), 2);
        PluginChains guarded = behindPlus(-5, 3, 2);
        guarded.hook(0, 0, -1, 1, 4);
        Look.fires(guarded, 0, 7, 0, 2);
        Look.fires(guarded, 0, 8, 0, 12);
        Checks.due("matter", guarded.matter(0, 7), 1 | 2);
        Checks.due("source", guarded.source(0, 12, 0, 20), Look.TOLD + 8);
        PluginChains twice = behindPlus(5, 2, 0);
        twice.hook(0, 0, -1, 0, 10);
        Look.fires(twice, 0, 1, 0, 1 + 5 + 10 + 10);
        PluginChains caught = behindPlus(5, 8, 3);
        caught.hook(0, 0, -1, 7, 10);
        Look.fires(caught, 0, 1, 0, 1 + 5 + 3);
    }

    /** What a NOTE behind a hook of each function is asked with, that hook's k being 9. */
    private static void onlyPlusAndSwapHandOnAnother() {
        int[] due = {7 + 9, 7, 7 + 7, 7, 7 ^ 9, 7, 7 + 7, 0, 7};
        for (int function = 0; function < due.length; function++) {
            PluginChains x = Make.withOneRunning();
            x.hook(0, 0, 1, function, 9);
            x.hook(0, 0, 0, 6, 0);
            x.fire(0, 7);
            Checks.due("a NOTE behind function " + function, x.tally(0), due[function]);
        }
    }

    private static void functionsWrap() {
        PluginChains x = Make.withOneRunning();
        x.hook(0, 0, 0, 0, 99);
        x.hook(0, 1, 0, 1, 99);
        x.hook(0, 2, 0, 8, 10);
        x.hook(0, 2, -1, 7, 99);
        Look.fires(x, 0, Look.MOST, 0, Look.MOST + 99);
        Look.fires(x, 1, Look.MOST, 0, Look.MOST * 99);
        Look.fires(x, 2, Look.LEAST, 0, Look.LEAST + 10);
    }

    private static void guards() {
        int[][] stays = {{7, 7}, {-3, 7}, {7, -3}, {-13, -3}, {99, -1}, {0, 10}, {-10, 0}, {-50, 20}, {Look.LEAST, 2}};
        int[][] goes = {{-7, 7}, {7, -7}, {-7, -3}, {8, 7}, {0, 1}, {Look.LEAST, 8}, {Look.LEAST, 3}};
        for (int[] value : stays) {
            Look.fires(aheadOfTimes(3, value[1]), 0, value[0], 0, value[0]);
        }
        for (int[] value : goes) {
            Look.fires(aheadOfTimes(3, value[1]), 0, value[0], 0, value[0] * 3);
        }
    }

    private static void catches() {
        PluginChains x = Make.withOneRunning();
        x.hook(0, 0, 9, 0, 1);
        x.hook(0, 0, 8, 8, 20);
        x.hook(0, 0, 7, 8, 5);
        x.hook(0, 0, 6, 4, 3);
        x.hook(0, 0, 5, 7, 10);
        x.hook(0, 0, 4, 1, 2);
        Look.fires(x, 0, 4, 0, (5 ^ 3) + 5);
        Look.fires(x, 0, 16, 0, (17 ^ 3) * 2 ^ 3);
        x.hook(0, 0, 9, 7, 0);
        Look.fires(x, 0, -2, 1, -1);
        Look.fires(x, 0, -1, 0, (0 ^ 3) + 5);
        PluginChains y = Make.withOneRunning();
        y.hook(0, 0, 0, 7, 0);
        y.hook(0, 0, 0, 8, 9);
        Look.fires(y, 0, -5, 1, -5);
        Look.fires(y, 0, 5, 0, 5);
        PluginChains z = Make.withOneRunning();
        z.hook(0, 0, 3, 8, 50);
        z.hook(0, 0, 2, 2, 0);
        z.hook(0, 0, 1, 0, -6);
        z.hook(0, 0, 0, 7, 10);
        Look.fires(z, 0, 14, 0, 58);
        Look.fires(z, 0, 20, 0, 58);
        Look.fires(z, 0, 22, 0, 10);
    }

    private static void counts() {
        PluginChains x = Make.withOneRunning();
        x.hook(0, 0, 9, 5, 0);
        x.hook(0, 0, 8, 2, 0);
        x.hook(0, 0, 7, 5, 0);
        x.hook(0, 0, 6, 0, 0);
        Look.fires(x, 0, 0, 0, 4 + 6 + 6);
    }

    private static void notes() {
        PluginChains x = Make.withOneRunning();
        Make.plain(x, "b", "", "");
        x.start(1);
        x.hook(1, 0, 9, 6, 0);
        x.hook(0, 0, 8, 0, 1);
        x.hook(0, 0, 7, 6, 0);
        x.hook(0, 0, 6, 2, 0);
        x.hook(1, 0, 5, 6, 0);
        x.hook(1, 0, 4, 7, 5);
        Look.fires(x, 0, 6, 0, 7);
        Checks.due("tally", x.tally(0), 7);
        Checks.due("tally", x.tally(1), 6 + 7 + 7);
        Look.fires(x, 0, 3, 1, 4);
        Checks.due("tally stays when it throws", x.tally(0), 7);
        Checks.due("tally stays when it throws", x.tally(1), 20);
        x.hook(1, 0, 9, 8, 0);
        Look.fires(x, 0, 3, 0, 4);
        Checks.due("tally when it is caught", x.tally(0), 7 + 4);
        Checks.due("tally when it is caught", x.tally(1), 20 + 3 + 4);
        x.hook(1, 0, 8, 8, 0);
        Look.fires(x, 0, 2, 0, 3);
        Checks.due("tally when it is caught", x.tally(0), 11 + 3);
        Checks.due("tally when it is caught", x.tally(1), 27 + 2 + 3);
    }

    private static void ends() {
        PluginChains x = Make.withOneRunning();
        x.hook(0, 0, 9, 8, 5);
        x.hook(0, 0, 8, 6, 5);
        for (int i = 0; i < 6; i++) {
            x.hook(0, 0, 7, 2, 0);
        }
        x.hook(0, 0, 6, 5, 0);
        Look.fires(x, 0, 0, 0, countThrough(6));
        Checks.due("hooks that ran", x.status(8), 2 + 63 + 64);
        x.hook(0, 0, 7, 2, 0);
        Look.fires(x, 0, 1, 2, 0);
        Checks.due("hooks that ran", x.status(8), 200);
        Checks.due("tally stays when it ended", x.tally(0), 0);
        PluginChains y = Make.withOneRunning();
        for (int i = 0; i < 6; i++) {
            y.hook(0, 0, 7, 2, 0);
        }
        y.hook(0, 0, 0, 0, 1);
        y.hook(0, 0, 0, 0, 1);
        Look.fires(y, 0, 0, 0, 128);
        Checks.due("hooks that ran", y.status(8), 191);
        for (int i = 0; i < 9; i++) {
            y.hook(0, 0, 9, 0, 1);
        }
        Look.fires(y, 0, 0, 0, 137);
        Checks.due("the two hundredth still runs", y.status(8), 200);
        y.hook(0, 0, 9, 0, 1);
        Look.fires(y, 0, 0, 2, 0);
        Checks.due("the 201st does not", y.status(8), 200);
    }

    private static int ranThrough;

    /** What twices ahead of one COUNT give for 0 behind two hooks that ran. */
    private static int countThrough(int twices) {
        ranThrough = 2;
        return countRest(twices, 0);
    }

    private static int countRest(int twices, int x) {
        ranThrough++;
        if (twices == 0) {
            return x + ranThrough;
        }
        return countRest(twices - 1, countRest(twices - 1, x));
    }

    private static void fireRefusals() {
        PluginChains x = aheadOfTimes(7, 5);
        x.fire(0, 3);
        Checks.refused(x, "fire on point 4", -1, () -> x.fire(4, 0));
        Checks.refused(x, "fire on point -1", -1, () -> x.fire(-1, 0));
        Checks.due("given stays", x.given(), 3);
        Checks.refused(x, "pure on point 4", -1, () -> x.pure(4, 0, 2));
        Checks.refused(x, "pure on point -1", -1, () -> x.pure(-1, 0, 0));
        Checks.refused(x, "pure what 2", -5, () -> x.pure(0, 0, 2));
        Checks.refused(x, "pure what -1", -5, () -> x.pure(0, 0, -1));
        Checks.refused(x, "matter on point 4", -1, () -> x.matter(4, 0));
        Checks.refused(x, "matter on point -1", -1, () -> x.matter(-1, 0));
    }

    private static void traces() {
        PluginChains x = Make.withOneRunning();
        x.hook(0, 0, 0, 0, 1);
        x.hook(0, 0, 3, 2, 0);
        x.hook(0, 0, 2, 3, 4);
        x.fire(0, 3);
        int[] due = {1, 2, 0, 2, -1};
        for (int i = 0; i < due.length; i++) {
            Checks.due("trace(" + i + ")", x.trace(i), due[i]);
        }
        Checks.due("trace(-1)", x.trace(-1), -1);
        Checks.due("status(8)", x.status(8), 4);
        x.fire(1, 3);
        Checks.due("trace of an empty chain", x.trace(0), -1);
        Checks.due("status(8)", x.status(8), 0);
        for (int i = 0; i < 4; i++) {
            x.hook(0, 0, 9, 2, 0);
        }
        x.fire(0, 0);
        Checks.due("the thirtieth", x.trace(29) >= 0 ? 1 : 0, 1);
        Checks.due("no more are kept", x.trace(30), -1);
    }

    private static void pures() {
        PluginChains x = aheadOfTimes(6, 0);
        x.hook(0, 1, 0, 7, 0);
        x.fire(0, 2);
        String before = Dump.of(x);
        Checks.due("pure", x.pure(0, -4, 0), 0);
        Checks.due("pure", x.pure(0, -4, 1), Look.TOLD - 12);
        Checks.due("pure throws", x.pure(1, Look.LEAST, 0), 1);
        Checks.due("pure throws", x.pure(1, Look.LEAST, 1), Look.TOLD + Look.LEAST);
        Checks.due("pure gives", x.pure(1, Look.MOST, 1), Look.TOLD + Look.MOST);
        x.matter(0, 4);
        x.source(0, 4, 0, 9);
        Checks.same("pure changes nothing", Dump.of(x), before);
    }

    private static void matters() {
        PluginChains x = Make.withOneRunning();
        Make.plain(x, "b", "", "");
        x.hook(0, 0, 9, 3, 7);
        x.hook(1, 0, 8, 0, 5);
        x.hook(0, 0, 7, 0, 0);
        x.hook(0, 1, 7, 0, 5);
        x.hook(0, 0, 6, 7, 2);
        x.hook(0, 0, 5, 0, 5);
        Checks.due("matter", x.matter(0, 3), 1 << 5);
        Checks.due("matter when one throws", x.matter(0, 1), 1 << 4);
        Checks.due("matter when one guards", x.matter(0, 7), 1);
        Checks.due("matter of an empty chain", x.matter(3, 1), 0);
        x.start(1);
        Checks.due("matter", x.matter(0, 3), 1 << 5 | 1 << 1);
        PluginChains y = Make.withOneRunning();
        y.hook(0, 0, 0, 7, 5);
        Checks.due("to throw 3 is not to give 3", y.matter(0, 3), 1);
        PluginChains z = Make.withOneRunning();
        for (int i = 0; i < 8; i++) {
            z.hook(0, 0, 0, 2, 0);
        }
        Checks.due("to end is not to give 0", z.matter(0, 0), 255);
    }

    private static void sources() {
        PluginChains x = Make.withOneRunning();
        x.hook(0, 0, 9, 3, 7);
        x.hook(0, 0, 8, 7, 0);
        x.hook(0, 0, 7, 1, 2);
        Checks.due("source: 7 is guarded", x.source(0, 14, -10, 20), 0);
        Checks.due("source", x.source(0, 16, 0, 20), Look.TOLD + 8);
        Checks.due("source: the guarded one", x.source(0, 17, 0, 20), Look.TOLD + 17);
        Checks.due("source: none", x.source(0, 15, 0, 20), 0);
        Checks.due("source: what is thrown is not given", x.source(0, -5, -9, -4), 0);
        Checks.due("source of 0", x.source(0, 0, -5, 5), Look.TOLD);
        Checks.due("source below 0", x.source(0, -3, -5, 5), Look.TOLD - 3);
        Checks.due("source of one", x.source(0, 16, 8, 8), Look.TOLD + 8);
        Checks.due("source that ends behind it", x.source(0, 16, 0, 7), 0);
        Checks.due("source that begins behind it", x.source(0, 16, 9, 20), 0);
    }

    private static void sourceEdges() {
        PluginChains x = Make.withOneRunning();
        Checks.due("source to the greatest", x.source(0, Look.MOST, Look.MOST - 199, Look.MOST), Look.TOLD + Look.MOST);
        Checks.due("source from the least", x.source(0, Look.LEAST, Look.LEAST, Look.LEAST + 199), Look.TOLD + Look.LEAST);
        Checks.due("source: none up to the greatest", x.source(0, 0, Look.MOST - 199, Look.MOST), 0);
        Checks.refused(x, "source on point 4", -1, () -> x.source(4, 0, 1, 0));
        Checks.refused(x, "source on point -1", -1, () -> x.source(-1, 0, 0, 0));
        Checks.refused(x, "source from above", -6, () -> x.source(0, 0, 1, 0));
        Checks.refused(x, "source 200 apart", -6, () -> x.source(0, 0, 0, 200));
        Checks.refused(x, "source all apart", -6, () -> x.source(0, 0, Look.LEAST, Look.MOST));
        Checks.refused(x, "source all above", -6, () -> x.source(0, 0, Look.MOST, Look.LEAST));
    }

    private static void judges() {
        PluginChains x = Make.withOneRunning();
        x.hook(0, 2, 0, 0, 5);
        x.hook(0, 2, -1, 7, 0);
        Make.ints(x, 0, 1, 6, 2, 7, 3, 9, 4, 4);
        int[] due = {-1, -1, -1, 2, 2};
        for (int n = 0; n < due.length; n++) {
            Checks.due("judge(0, 2, " + n + ")", x.judge(0, 2, n), due[n]);
        }
        Make.ints(x, 0, -8, -3, 9);
        Checks.due("what is thrown is not given", x.judge(0, 2, 1), 0);
        x.row(1, 0, 160);
        Checks.due("judge of 80", x.judge(1, 0, 80), -1);
        x.set(1, 159, 1);
        Checks.due("judge of 80", x.judge(1, 0, 80), 79);
        x.row(2, 0, 2);
        x.set(2, 0, 255);
        x.set(2, 1, 255);
        Checks.due("judge of bytes", x.judge(2, 0, 1), -1);
        x.row(3, 3, 2);
        x.set(3, 0, (1L << 32) + 5);
        x.set(3, 1, (7L << 32) + 5);
        Checks.due("judge of longs", x.judge(3, 0, 1), -1);
        x.hook(0, 3, 0, 6, 0);
        String before = Dump.of(x);
        Checks.due("judge", x.judge(3, 3, 1), -1);
        Checks.same("judge changes nothing", Dump.of(x), before);
    }

    private static void judgeRefusals() {
        PluginChains x = Make.withOneRunning();
        x.row(0, 2, 3);
        x.show(1, 0);
        x.row(3, 2, 160);
        Checks.refused(x, "judge shelf 8", -11, () -> x.judge(8, 0, 0));
        Checks.refused(x, "judge shelf -1", -11, () -> x.judge(-1, 0, 0));
        Checks.refused(x, "judge point 4 of a plug-in", -11, () -> x.judge(1, 4, -1));
        Checks.refused(x, "judge point -1 of nothing", -11, () -> x.judge(2, -1, -1));
        Checks.refused(x, "judge a plug-in", -12, () -> x.judge(1, 0, -1));
        Checks.refused(x, "judge nothing", -13, () -> x.judge(2, 0, -1));
        Checks.refused(x, "judge -1", -14, () -> x.judge(0, 0, -1));
        Checks.refused(x, "judge fewer elements", -15, () -> x.judge(0, 0, 2));
        Checks.refused(x, "judge 81 of 160 elements", -15, () -> x.judge(3, 0, 81));
        Checks.refused(x, "judge very many", -15, () -> x.judge(0, 0, Look.MOST));
    }
}
