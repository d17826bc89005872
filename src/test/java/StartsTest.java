/** Promises 16 to 24 and 35: starts, causes, stops, waves, the log. */
public final class StartsTest {
    public static void main(String[] args) {
        starts();
        offersTaken();
        offersOfRunningOnes();
        causesOfEach();
        rolledBack();
        causesStay();
        startRefusals();
        longStart();
        allAtOnce();
        stops();
        waves();
        waveRefusals();
        mends();
        removes();
        woulds();
        wouldRefusals();
        runningOnes();
        offered();
        logs();
        Checks.end("StartsTest");
    }

    private static void starts() {
        PluginChains x = new PluginChains();
        Make.plain(x, "a", "21", "");
        Make.plain(x, "b", "3", "1");
        Make.plain(x, "c", "", "2");
        Make.plain(x, "d", "", "3");
        Checks.due("start", x.start(0), 4);
        Look.runningAre(x, 3, 1, 2, 0);
        Look.logIs(x, 103, 101, 102, 100);
        Checks.due("clock", x.status(5), 4);
        Checks.due("running", x.status(1), 4);
        Look.causesAre(x);
    }

    private static void offersTaken() {
        PluginChains x = new PluginChains();
        Make.plain(x, "m", "0", "0");
        Make.plug(x, 0, 6, "", "0", 0, "ba");
        Make.plug(x, 2, 6, "", "0", 0, "b");
        Make.plug(x, 4, 5, "", "0", 0, "bb");
        Make.plug(x, 0, 5, "", "0", 0, "a");
        Checks.due("start", x.start(0), 2);
        Look.runningAre(x, 2, 0);
        x.stop(2);
        x.remove(2);
        x.start(0);
        Look.runningAre(x, 1, 0);
        x.stop(1);
        x.remove(1);
        x.start(0);
        Look.runningAre(x, 3, 0);
        x.stop(3);
        x.remove(3);
        x.start(0);
        Look.runningAre(x, 4, 0);
        PluginChains y = new PluginChains();
        Make.plain(y, "m", "0", "");
        Make.plain(y, "c", "", "0");
        Make.plain(y, "abzz", "", "0");
        Make.plain(y, "b", "", "0");
        Make.plain(y, "ac", "", "0");
        y.start(0);
        Look.runningAre(y, 2, 0);
        PluginChains z = new PluginChains();
        Make.plain(z, "m", "0", "");
        Make.plug(z, 0, 4, "", "0", 0, "a");
        Make.plug(z, 0, 5, "", "0", 0, "b");
        z.start(0);
        Look.runningAre(z, 2, 0);
    }

    private static void offersOfRunningOnes() {
        PluginChains x = new PluginChains();
        Make.plug(x, 0, 0, "", "0", 0, "a");
        Make.plug(x, 0, 9, "", "0", 0, "b");
        Make.plain(x, "c", "0", "");
        x.start(0);
        Checks.due("one that runs is enough", x.start(2), 1);
        Look.runningAre(x, 0, 2);
        PluginChains y = new PluginChains();
        Make.plain(y, "a", "01", "");
        Make.plug(y, 0, 9, "2", "0", 0, "b");
        Make.plug(y, 0, 0, "", "12", 0, "c");
        Make.plug(y, 0, 9, "", "1", 0, "d");
        Checks.due("one started on the way is enough", y.start(0), 3);
        Look.runningAre(y, 2, 1, 0);
    }

    private static void causesOfEach() {
        PluginChains x = new PluginChains();
        Make.plain(x, "a", "5", "");
        Checks.countedOnly(x, "start without an offer", -6, () -> x.start(0));
        Look.causesAre(x, 0, 2, 5);
        Make.plain(x, "b", "3", "3");
        x.start(1);
        Look.causesAre(x, 1, 2, 3);
        Make.plug(x, 0, 0, "", "5", 2, "c");
        x.start(2);
        Look.causesAre(x, 2, 5, -1);
        Checks.due("faults", x.plugOf(2, 5), 1);
        Look.stateIs(x, 2, 2);
        Checks.countedOnly(x, "start of one broken", -6, () -> x.start(2));
        Look.causesAre(x, 2, 1, -1);
        Checks.due("faults stay", x.plugOf(2, 5), 1);
        x.start(0);
        Look.causesAre(x, 0, 2, 5);
        x.mend(2);
        x.start(0);
        Look.causesAre(x, 0, 4, 5, 2, 5, -1);
        Checks.due("faults", x.plugOf(2, 5), 0);
        x.remove(2);
        x.start(2);
        Look.causesAre(x, 2, 1, -1);
        Look.logIs(x, 302, 302);
    }

    private static void rolledBack() {
        PluginChains x = new PluginChains();
        Make.plain(x, "a", "0123", "");
        Make.plain(x, "b", "", "0");
        Make.plain(x, "c", "4", "1");
        Make.plain(x, "d", "", "4");
        Make.plug(x, 0, 1, "5", "2", 1, "e");
        Make.plain(x, "f", "", "5");
        Make.plain(x, "g", "", "3");
        x.start(1);
        x.start(0);
        Look.causesAre(x, 0, 4, 2, 4, 5, -1);
        Look.logIs(x, 101, 103, 102, 105, 304, 205, 202, 203);
        Look.runningAre(x, 1);
        Checks.due("clock stays", x.status(5), 4);
        Checks.due("logged", x.status(9), 8);
        for (int p : new int[] {0, 2, 3, 5, 6}) {
            Look.stateIs(x, p, 0);
        }
        Look.stateIs(x, 4, 2);
        x.mend(4);
        Checks.due("start again", x.start(0), 6);
        Look.runningAre(x, 1, 3, 2, 5, 4, 6, 0);
        Checks.due("age", x.age(3), 4);
    }

    private static void causesStay() {
        PluginChains x = new PluginChains();
        Make.plain(x, "a", "0", "1");
        Make.plain(x, "b", "1", "2");
        Make.plain(x, "c", "2", "0");
        Make.plain(x, "d", "", "");
        x.start(1);
        Look.causesAre(x, 1, 4, 1, 0, 4, 0, 2, 3, 2);
        Checks.due("start", x.start(3), 1);
        Look.causesAre(x, 1, 4, 1, 0, 4, 0, 2, 3, 2);
        Checks.due("start one that runs", x.start(3), -6);
        Look.causesAre(x, 1, 4, 1, 0, 4, 0, 2, 3, 2);
        x.would(0, -1);
        x.seed(7);
        x.days(40);
        Look.causesAre(x, 1, 4, 1, 0, 4, 0, 2, 3, 2);
        Checks.refused(x, "cause -1", -5, () -> x.cause(-1, 0));
        Checks.refused(x, "cause 3", -5, () -> x.cause(3, 0));
        Checks.refused(x, "cause what 3", -5, () -> x.cause(0, 3));
        Checks.refused(x, "cause what -1", -5, () -> x.cause(1, -1));
    }

    private static void startRefusals() {
        PluginChains x = Make.withOneRunning();
        Checks.refused(x, "start 1", -1, () -> x.start(1));
        Checks.refused(x, "start -1", -1, () -> x.start(-1));
        Checks.refused(x, "start one that runs", -6, () -> x.start(0));
    }

    private static void longStart() {
        PluginChains x = new PluginChains();
        for (int i = 0; i < 8; i++) {
            Make.plain(x, "" + (char) ('a' + i), "" + i, i == 0 ? "" : "" + (i - 1));
        }
        x.start(0);
        Look.causesAre(x, 0, 4, 0, 1, 4, 1, 2, 4, 2, 3, 4, 3, 4, 4, 4, 5, 4, 5, 6, 4, 6, 7, 2, 7);
        Make.plain(x, "i", "", "7");
        Checks.due("would", x.would(0, -1), 9);
        Checks.due("start", x.start(0), 9);
        Look.runningAre(x, 8, 7, 6, 5, 4, 3, 2, 1, 0);
        for (int q = 0; q < 8; q++) {
            Checks.due("wave", x.wave(8, q), 8 - q);
        }
        Checks.due("stop", x.stop(8), 9);
        Checks.due("log", x.log(9), 200);
        Checks.due("log", x.log(17), 208);
    }

    /** Twelve: one needs what four offer, each of which needs what others offer. */
    private static void allAtOnce() {
        PluginChains x = new PluginChains();
        Make.plain(x, "l", "0123", "");
        Make.plain(x, "k", "4567", "0");
        Make.plain(x, "j", "", "1");
        Make.plain(x, "i", "", "2");
        Make.plain(x, "n", "", "3");
        for (int service = 4; service < 8; service++) {
            Make.plain(x, "" + (char) ('a' + service), "", "" + service);
        }
        Make.plain(x, "c", "0", "");
        Make.plain(x, "b", "1", "");
        Make.plain(x, "a", "2", "");
        Checks.due("would", x.would(0, -1), 9);
        Checks.due("start", x.start(0), 9);
        for (int p = 9; p < 12; p++) {
            Checks.due("start", x.start(p), 1);
        }
        Look.runningAre(x, 5, 6, 7, 8, 1, 2, 3, 4, 0, 9, 10, 11);
        Checks.due("offered", x.offered(7), 1 << 8);
        x.hook(11, 0, 0, 6, 0);
        Checks.due("fire", x.fire(0, 5), 0);
        Checks.due("the last one's tally", x.tally(11), 5);
        Checks.due("provider", x.provider(11, 2), 3);
        Checks.due("wave", x.wave(5, 1), 1);
        Checks.due("wave", x.wave(5, 9), 2);
        Checks.due("wave", x.wave(5, 11), -1);
        Checks.due("stop", x.stop(5), 4);
        Look.runningAre(x, 6, 7, 8, 2, 3, 4, 10, 11);
        Checks.due("start", x.start(0), 3);
        Checks.due("running", x.status(1), 11);
    }

    private static void stops() {
        PluginChains x = new PluginChains();
        Make.plain(x, "a", "", "0");
        Make.plain(x, "b", "0", "1");
        Make.plain(x, "c", "1", "");
        Make.plain(x, "d", "", "");
        for (int p = 0; p < 4; p++) {
            x.start(p);
        }
        Checks.due("stop", x.stop(1), 2);
        Look.runningAre(x, 0, 3);
        Look.logIs(x, 100, 101, 102, 103, 202, 201);
        Checks.due("stop", x.stop(3), 1);
        Checks.due("clock", x.status(5), 4);
        Checks.refused(x, "stop 4", -1, () -> x.stop(4));
        Checks.refused(x, "stop -1", -1, () -> x.stop(-1));
        Checks.refused(x, "stop one idle", -6, () -> x.stop(1));
    }

    private static void waves() {
        PluginChains x = new PluginChains();
        Make.plain(x, "a", "", "0");
        Make.plain(x, "b", "0", "1");
        Make.plain(x, "c", "0", "1");
        Make.plain(x, "d", "1", "");
        Make.plain(x, "e", "", "0");
        Make.plain(x, "f", "0", "");
        Make.plain(x, "g", "1", "");
        Make.plain(x, "h", "", "1");
        for (int p : new int[] {0, 1, 2, 3, 4, 5, 7, 6}) {
            x.start(p);
        }
        int[] due = {0, 1, 1, 2, -1, -1, -1, -1};
        for (int q = 0; q < due.length; q++) {
            Checks.due("wave(0, " + q + ")", x.wave(0, q), due[q]);
        }
        Checks.due("a wave of one", x.wave(1, 1), 0);
        Checks.due("no wave behind it", x.wave(1, 3), -1);
        Checks.due("stop", x.stop(0), 4);
        Checks.due("logged youngest first", x.log(8), 203);
        Checks.due("logged youngest last", x.log(11), 200);
        Look.runningAre(x, 4, 5, 7, 6);
        Checks.due("bound anew", x.provider(5, 0), 4);
        Checks.due("bound anew", x.provider(6, 1), 7);
        Checks.due("wave of one idle", x.wave(4, 0), -1);
    }

    private static void waveRefusals() {
        PluginChains x = Make.withOneRunning();
        Make.plain(x, "b", "", "");
        Checks.refused(x, "wave of 2", -11, () -> x.wave(2, 0));
        Checks.refused(x, "wave of -1", -11, () -> x.wave(-1, 0));
        Checks.refused(x, "wave for 2", -11, () -> x.wave(1, 2));
        Checks.refused(x, "wave for -1", -11, () -> x.wave(0, -1));
        Checks.refused(x, "wave of one idle", -16, () -> x.wave(1, 0));
    }

    private static void mends() {
        PluginChains x = new PluginChains();
        Make.plug(x, 0, 0, "", "", 3, "a");
        Checks.refused(x, "mend one idle", -6, () -> x.mend(0));
        x.start(0);
        Checks.due("broken ones", x.status(2), 1);
        Checks.due("mend", x.mend(0), 2);
        Look.stateIs(x, 0, 0);
        Checks.refused(x, "mend 1", -1, () -> x.mend(1));
        Checks.refused(x, "mend -1", -1, () -> x.mend(-1));
        x.remove(0);
        Checks.refused(x, "mend one gone", -6, () -> x.mend(0));
    }

    private static void removes() {
        PluginChains x = new PluginChains();
        Make.plain(x, "a", "", "0");
        Make.plain(x, "b", "0", "");
        Make.plug(x, 0, 0, "", "", 1, "c");
        x.start(1);
        x.hook(0, 0, 0, 0, 1);
        Checks.due("remove", x.remove(0), 2);
        Look.stateIs(x, 0, 3);
        Look.stateIs(x, 1, 0);
        Look.logIs(x, 100, 101, 201, 200);
        Checks.due("gone ones", x.status(3), 1);
        Checks.due("hooks stay", x.status(4), 1);
        Checks.due("hooks stay", x.hookOf(0, 0), 0);
        Checks.due("and never run", x.chain(0, 0), -1);
        Checks.due("remove one idle", x.remove(1), 0);
        x.start(2);
        Checks.due("remove one broken", x.remove(2), 0);
        Checks.due("broken ones", x.status(2), 0);
        Checks.refused(x, "remove one gone", -6, () -> x.remove(0));
        Checks.refused(x, "remove 3", -1, () -> x.remove(3));
        Checks.refused(x, "remove -1", -1, () -> x.remove(-1));
        Checks.due("plug-ins", x.status(0), 3);
    }

    private static void woulds() {
        PluginChains x = new PluginChains();
        Make.plain(x, "a", "12", "");
        Make.plain(x, "b", "", "1");
        Make.plain(x, "c", "", "2");
        Make.plug(x, 0, 0, "1", "", 1, "d");
        String before = Dump.of(x);
        Checks.due("would", x.would(0, -1), 3);
        int[] due = {1, 2, 0, -1};
        for (int i = 0; i < due.length; i++) {
            Checks.due("would(0, " + i + ")", x.would(0, i), due[i]);
        }
        Checks.due("would(0, -2)", x.would(0, -2), -1);
        Checks.due("would fail", x.would(3, -1), 0);
        Checks.due("would fail", x.would(3, 0), -1);
        Checks.same("would changes nothing", Dump.of(x), before);
        x.start(3);
        Checks.due("would of one broken", x.would(3, -1), 0);
        x.start(1);
        Checks.due("would", x.would(0, -1), 2);
        Checks.due("would", x.would(0, 0), 2);
    }

    private static void wouldRefusals() {
        PluginChains x = Make.withOneRunning();
        Checks.refused(x, "would 1", -11, () -> x.would(1, -1));
        Checks.refused(x, "would -1", -11, () -> x.would(-1, 0));
        Checks.refused(x, "would one that runs", -16, () -> x.would(0, -1));
        x.remove(0);
        Checks.due("would one gone", x.would(0, -1), 0);
        Checks.due("would one gone", x.would(0, 0), -1);
    }

    private static void runningOnes() {
        PluginChains x = new PluginChains();
        for (char c = 'a'; c < 'e'; c++) {
            Make.plain(x, "" + c, "", "");
        }
        for (int p : new int[] {2, 0, 3}) {
            x.start(p);
        }
        Look.runningAre(x, 2, 0, 3);
        x.stop(2);
        x.start(2);
        Look.runningAre(x, 0, 3, 2);
        Checks.due("running(-1)", x.running(-1), -1);
        Checks.due("running refuses nothing", x.status(15) + x.status(11), 0);
    }

    private static void offered() {
        PluginChains x = new PluginChains();
        Make.plain(x, "a", "", "07");
        Make.plain(x, "b", "", "7");
        Make.plain(x, "c", "", "7");
        x.start(0);
        x.start(2);
        Checks.due("offered(7)", x.offered(7), 5);
        Checks.due("offered(0)", x.offered(0), 1);
        Checks.due("offered(1)", x.offered(1), 0);
        Checks.refused(x, "offered(8)", -1, () -> x.offered(8));
        Checks.refused(x, "offered(-1)", -1, () -> x.offered(-1));
    }

    private static void logs() {
        PluginChains x = new PluginChains();
        Make.plain(x, "a", "", "");
        for (int i = 0; i < 20; i++) {
            x.start(0);
            x.stop(0);
        }
        Checks.due("log(0)", x.log(0), 100);
        Checks.due("log(39)", x.log(39), 200);
        x.start(0);
        Checks.due("log(0) when one is lost", x.log(0), 200);
        Checks.due("log(39)", x.log(39), 100);
        Checks.due("log(40)", x.log(40), -1);
        Checks.due("log(-1)", x.log(-1), -1);
        Checks.due("ever logged", x.status(9), 41);
        Checks.due("log refuses nothing", x.status(15), 0);
    }
}
