/** The edges of starts, causes, stops, waves and the log; each test tells its sentence. */
public final class StartEdgesTest {
    public static void main(String[] args) {
        takenByStrengthAndName();
        offersItself();
        leastServiceFirst();
        brokenGoneAndRunningOffers();
        chainOfTwelve();
        chainOfTwelveFails();
        whyThree();
        whyThreeBehindOneStarted();
        strongestOneIsBeingStarted();
        nineFaults();
        faultBehindTheNeeds();
        rolledBackFromTheYoungest();
        causesOfTheLatest();
        wavesOfTwelve();
        wavesAtOnce();
        wavesAtTheEdges();
        boundAnewForEach();
        logOfForty();
        mendsAtTheEdges();
        removesInEachState();
        removedOnesNeverRun();
        wouldInEachState();
        runningAtTheEdges();
        offeredAtTheEdges();
        Checks.end("StartEdgesTest");
    }

    private static final String[] NAMES = {"a", "aa", "aaaa", "aaab", "ab", "abz", "az", "b", "ba", "z",
        "zy", "zz", "zzy", "zzz", "zzza", "zzzz"};

    /** "that of greatest STRENGTH, of several that of least NAME"; "what is a beginning of another one ahead of it". */
    private static void takenByStrengthAndName() {
        for (int i = 0; i < NAMES.length; i++) {
            for (int j = 0; j < NAMES.length; j++) {
                if (i != j) {
                    PluginChains x = new PluginChains();
                    Make.plain(x, NAMES[i], "", "3");
                    Make.plain(x, NAMES[j], "", "3");
                    Make.plain(x, "m", "3", "");
                    Checks.due("of " + NAMES[i] + " and " + NAMES[j], x.would(2, 0), i < j ? 0 : 1);
                    PluginChains y = new PluginChains();
                    Make.plug(y, 0, 3, "", "3", 0, NAMES[i]);
                    Make.plug(y, 0, 4, "", "3", 0, NAMES[j]);
                    Make.plain(y, "m", "3", "");
                    Checks.due("of a weaker " + NAMES[i] + " and " + NAMES[j], y.would(2, 0), 1);
                }
            }
        }
    }

    /** "if no other one that is RUNNING OFFERS it: of all others": never by itself. */
    private static void offersItself() {
        PluginChains x = new PluginChains();
        Make.plug(x, 0, 9, "0", "0", 0, "a");
        Checks.countedOnly(x, "start with its own offer alone", -6, () -> x.start(0));
        Look.causesAre(x, 0, 2, 0);
        Make.plug(x, 0, 0, "", "0", 0, "b");
        Checks.due("start with another one's", x.start(0), 2);
        Look.runningAre(x, 1, 0);
    }

    /** "for each SERVICE it NEEDS, the least first": all eight. */
    private static void leastServiceFirst() {
        PluginChains x = new PluginChains();
        x.plug(0, 0, 255, 0, 0, 1);
        for (int service = 7; service >= 0; service--) {
            Make.plain(x, "b" + (char) ('a' + service), "", "" + service);
        }
        Checks.due("would", x.would(0, -1), 9);
        Checks.due("start", x.start(0), 9);
        Look.logIs(x, 108, 107, 106, 105, 104, 103, 102, 101, 100);
        PluginChains y = new PluginChains();
        y.plug(0, 0, 255, 0, 0, 1);
        Make.plain(y, "b", "", "0123456");
        y.start(0);
        Look.causesAre(y, 0, 2, 7);
        Look.logIs(y, 101, 201);
        PluginChains z = new PluginChains();
        z.plug(0, 0, 255, 0, 0, 1);
        z.start(0);
        Look.causesAre(z, 0, 2, 0);
        Look.logIs(z);
    }

    /** "of all others that are IDLE and OFFER it": not those BROKEN or GONE, however strong. */
    private static void brokenGoneAndRunningOffers() {
        PluginChains x = new PluginChains();
        Make.plug(x, 0, 9, "", "0", 1, "a");
        Make.plug(x, 0, 8, "", "0", 0, "b");
        Make.plug(x, 0, 1, "", "0", 0, "c");
        Make.plug(x, 0, 0, "0", "", 0, "d");
        x.start(0);
        x.remove(1);
        Checks.due("start", x.start(3), 2);
        Look.runningAre(x, 2, 3);
        x.stop(2);
        x.remove(2);
        Checks.due("start", x.start(3), -6);
        Look.causesAre(x, 3, 2, 0);
        x.mend(0);
        Checks.due("start", x.start(3), 2);
        Look.runningAre(x, 0, 3);
    }

    /**
     * Twelve, each of which starts the next: the second of two that offer a service needs it too,
     * so that the same service is needed twice in one chain. The last one is number 11.
     */
    private static PluginChains twelve(String lastNeeds, int lastFaults) {
        PluginChains x = new PluginChains();
        Make.plug(x, 0, 0, "0", "", 0, "a");
        for (int service = 0; service < 5; service++) {
            String more = "" + (service + 1);
            Make.plug(x, 0, 9, "" + service, "" + service, 0, "b" + (char) ('a' + service));
            Make.plug(x, 0, 5, more, "" + service, 0, "c" + (char) ('a' + service));
        }
        Make.plug(x, 0, 9, lastNeeds, "5", lastFaults, "d");
        return x;
    }

    /** "else that is STARTED": "how many are", at the most. */
    private static void chainOfTwelve() {
        PluginChains x = twelve("", 0);
        Checks.due("would", x.would(0, -1), 12);
        for (int i = 0; i < 12; i++) {
            Checks.due("would(0, " + i + ")", x.would(0, i), 11 - i);
        }
        for (int i : new int[] {12, -2, Look.LEAST, Look.MOST}) {
            Checks.due("would(0, " + i + ")", x.would(0, i), -1);
        }
        Checks.due("start", x.start(0), 12);
        Look.runningAre(x, 11, 10, 9, 8, 7, 6, 5, 4, 3, 2, 1, 0);
        Look.logIs(x, 111, 110, 109, 108, 107, 106, 105, 104, 103, 102, 101, 100);
        for (int q = 0; q < 12; q++) {
            Checks.due("wave(11, " + q + ")", x.wave(11, q), 11 - q);
            Checks.due("age", x.age(q), 11 - q);
        }
        Checks.due("stop", x.stop(11), 12);
        Checks.due("the first stopped", x.log(12), 200);
        Checks.due("the last stopped", x.log(23), 211);
        Checks.due("running", x.status(1), 0);
    }

    private static void causesOfTwelve(PluginChains x, int why, int service) {
        Checks.due("causes", x.status(7), 12);
        for (int i = 0; i < 11; i++) {
            Checks.due("cause(" + i + ", 0)", x.cause(i, 0), i);
            Checks.due("cause(" + i + ", 1)", x.cause(i, 1), 4);
            Checks.due("cause(" + i + ", 2)", x.cause(i, 2), i / 2);
        }
        Checks.due("the last", x.cause(11, 0), 11);
        Checks.due("why", x.cause(11, 1), why);
        Checks.due("service", x.cause(11, 2), service);
        Checks.refused(x, "cause behind the last", -5, () -> x.cause(12, 0));
        Checks.refused(x, "cause what 3", -5, () -> x.cause(11, 3));
    }

    /** "from p on, each what FAILED ... down to one of why 1, 2, 3 or 5": twelve causes. */
    private static void chainOfTwelveFails() {
        PluginChains x = twelve("6", 0);
        Checks.due("would", x.would(0, -1), 0);
        Checks.due("would", x.would(0, 0), -1);
        Checks.countedOnly(x, "start", -6, () -> x.start(0));
        causesOfTwelve(x, 2, 6);
        PluginChains y = twelve("0", 0);
        Checks.countedOnly(y, "start", -6, () -> y.start(0));
        causesOfTwelve(y, 3, 0);
        PluginChains z = twelve("", 1);
        Checks.countedOnly(z, "start", -6, () -> z.start(0));
        causesOfTwelve(z, 5, -1);
        Look.logIs(z, 311);
        Checks.countedOnly(z, "start", -6, () -> z.start(0));
        Checks.due("causes", z.status(7), 11);
        Checks.due("the last", z.cause(10, 1), 2);
        Checks.due("the last", z.cause(10, 2), 5);
    }

    /** "it is just being STARTED: p FAILS by that (why 3, the SERVICE)": two, and one that stands ahead. */
    private static void whyThree() {
        PluginChains x = new PluginChains();
        Make.plain(x, "a", "0", "7");
        Make.plain(x, "b", "7", "0");
        Make.plain(x, "c", "0", "");
        Checks.due("start", x.start(0), -6);
        Look.causesAre(x, 0, 4, 0, 1, 3, 7);
        Checks.due("start", x.start(1), -6);
        Look.causesAre(x, 1, 4, 7, 0, 3, 0);
        Checks.due("start", x.start(2), -6);
        Look.causesAre(x, 2, 4, 0, 1, 4, 7, 0, 3, 0);
        Look.logIs(x);
        Checks.due("running", x.status(1), 0);
    }

    /** The same, when another one was STARTED ahead of it: whatever numbers the three have. */
    private static void whyThreeBehindOneStarted() {
        int[][] numbers = {{0, 1, 2}, {0, 2, 1}, {1, 0, 2}, {1, 2, 0}, {2, 0, 1}, {2, 1, 0}};
        String[] needs = {"01", "", "2"};
        String[] offers = {"2", "0", "1"};
        for (int[] number : numbers) {
            PluginChains x = new PluginChains();
            for (int p = 0; p < 3; p++) {
                for (int one = 0; one < 3; one++) {
                    if (number[one] == p) {
                        Make.plain(x, "" + (char) ('a' + p), needs[one], offers[one]);
                    }
                }
            }
            Checks.due("would", x.would(number[0], -1), 0);
            Checks.due("start", x.start(number[0]), -6);
            Look.causesAre(x, number[0], 4, 1, number[2], 3, 2);
            Look.logIs(x, 100 + number[1], 200 + number[1]);
        }
    }

    /** The strongest one is taken even if it is just being STARTED and a weaker one is not. */
    private static void strongestOneIsBeingStarted() {
        PluginChains x = new PluginChains();
        Make.plug(x, 0, 9, "0", "1", 0, "a");
        Make.plug(x, 0, 9, "1", "0", 0, "b");
        Make.plug(x, 0, 1, "", "1", 0, "c");
        Checks.due("start", x.start(0), -6);
        Look.causesAre(x, 0, 4, 0, 1, 3, 1);
        Checks.due("start of the weaker one", x.start(2), 1);
        Checks.due("start", x.start(0), 2);
        Look.runningAre(x, 2, 1, 0);
    }

    /** "it has FAULTS: these are 1 less, it is BROKEN"; "how many FAULTS it has": nine, down to none. */
    private static void nineFaults() {
        PluginChains x = new PluginChains();
        Make.plug(x, 0, 0, "", "", 9, "a");
        for (int faults = 8; faults >= 0; faults--) {
            Checks.due("would", x.would(0, -1), 0);
            Checks.countedOnly(x, "start", -6, () -> x.start(0));
            Look.causesAre(x, 0, 5, -1);
            Checks.due("faults", x.plugOf(0, 5), faults);
            Look.stateIs(x, 0, 2);
            Checks.countedOnly(x, "start one broken", -6, () -> x.start(0));
            Look.causesAre(x, 0, 1, -1);
            Checks.due("mend", x.mend(0), faults);
        }
        Checks.due("start", x.start(0), 1);
        Checks.due("logged", x.status(9), 10);
        Checks.due("log", x.log(8), 300);
        Checks.due("log", x.log(9), 100);
    }

    /** "Behind that: it has FAULTS": a need that fails comes first, and the FAULTS stay. */
    private static void faultBehindTheNeeds() {
        PluginChains x = new PluginChains();
        Make.plug(x, 0, 0, "0", "", 1, "a");
        x.start(0);
        Look.causesAre(x, 0, 2, 0);
        Checks.due("faults stay", x.plugOf(0, 5), 1);
        Look.stateIs(x, 0, 0);
        Make.plug(x, 0, 0, "", "0", 0, "b");
        x.start(0);
        Look.causesAre(x, 0, 5, -1);
        Look.logIs(x, 101, 300, 201);
        Look.stateIs(x, 0, 2);
        Look.stateIs(x, 1, 0);
    }

    /** "all that have been STARTED for it are STOPPED, the youngest first ... (CLOCK stays as it is then)". */
    private static void rolledBackFromTheYoungest() {
        PluginChains x = new PluginChains();
        Make.plain(x, "a", "01234567", "");
        for (int service = 0; service < 7; service++) {
            Make.plain(x, "b" + (char) ('a' + service), "", "" + service);
        }
        Make.plug(x, 0, 0, "", "7", 2, "c");
        Make.plain(x, "z", "", "");
        x.start(9);
        Checks.countedOnly(x, "start", -6, () -> x.start(0));
        Look.logIs(x, 109, 101, 102, 103, 104, 105, 106, 107, 308, 207, 206, 205, 204, 203, 202, 201);
        Look.runningAre(x, 9);
        Checks.due("clock", x.status(5), 8);
        Look.causesAre(x, 0, 4, 7, 8, 5, -1);
        x.mend(8);
        x.start(0);
        Checks.due("clock", x.status(5), 15);
        x.mend(8);
        Checks.due("start", x.start(0), 9);
        Checks.due("age", x.age(1), 15);
        Checks.due("age", x.age(0), 23);
    }

    /** "THE CAUSES (none at first) of the latest start() that failed". */
    private static void causesOfTheLatest() {
        PluginChains x = new PluginChains();
        Look.causesAre(x);
        Make.plain(x, "a", "0", "");
        Make.plain(x, "b", "", "1");
        Make.plain(x, "c", "2", "0");
        x.start(0);
        Look.causesAre(x, 0, 4, 0, 2, 2, 2);
        x.start(1);
        Look.causesAre(x, 0, 4, 0, 2, 2, 2);
        x.start(1);
        x.start(12);
        x.start(-1);
        Look.causesAre(x, 0, 4, 0, 2, 2, 2);
        x.start(2);
        Look.causesAre(x, 2, 2, 2);
        x.would(0, -1);
        x.stop(1);
        x.image();
        x.restore();
        Look.causesAre(x, 2, 2, 2);
    }

    /** "Next ones ... till there are none": eleven behind p, services used again. */
    private static void wavesOfTwelve() {
        PluginChains x = new PluginChains();
        for (int p = 0; p < 12; p++) {
            Make.plain(x, "" + (char) ('a' + p), p == 0 ? "" : "" + (p - 1) % 8, "" + p % 8);
        }
        for (int p = 0; p < 12; p++) {
            Checks.due("start", x.start(p), 1);
        }
        for (int p = 0; p < 12; p++) {
            for (int q = 0; q < 12; q++) {
                // 9 and on need what two older ones offer, one of which stays unless 0 goes
                boolean reached = q == p || q > p && (p == 0 || q <= 8);
                Checks.due("wave(" + p + ", " + q + ")", x.wave(p, q), reached ? q - p : -1);
            }
        }
        Checks.due("stop the last", x.stop(11), 1);
        Checks.due("stop the ninth", x.stop(8), 1);
        Checks.due("bound anew", x.provider(9, 0), 0);
        Checks.due("stop the first", x.stop(0), 10);
    }

    /** "of those RUNNING and in no WAVE yet each that": one WAVE is found as a whole. */
    private static void wavesAtOnce() {
        PluginChains x = new PluginChains();
        Make.plain(x, "a", "", "0");
        Make.plain(x, "b", "0", "1");
        Make.plain(x, "c", "01", "1");
        Make.plain(x, "d", "1", "");
        Make.plain(x, "e", "", "2");
        for (int p = 0; p < 5; p++) {
            x.start(p);
        }
        int[] due = {0, 1, 1, 2, -1};
        for (int q = 0; q < 5; q++) {
            Checks.due("wave(0, " + q + ")", x.wave(0, q), due[q]);
        }
        int[] ofB = {-1, 0, 1, 2, -1};
        for (int q = 0; q < 5; q++) {
            Checks.due("wave(1, " + q + ")", x.wave(1, q), ofB[q]);
        }
        Checks.due("stop", x.stop(1), 3);
        Look.logIs(x, 100, 101, 102, 103, 104, 203, 202, 201);
        Look.runningAre(x, 0, 4);
    }

    /** "that no OLDER one RUNNING ... OFFERS": not itself, no younger one; "NONE: in none". */
    private static void wavesAtTheEdges() {
        PluginChains x = new PluginChains();
        Make.plain(x, "a", "", "0");
        Make.plain(x, "b", "0", "0");
        Make.plain(x, "c", "", "0");
        Make.plug(x, 0, 0, "", "", 1, "d");
        Make.plain(x, "e", "", "");
        for (int p = 0; p < 4; p++) {
            x.start(p);
        }
        x.remove(4);
        Checks.due("one that offers it itself", x.wave(0, 1), 1);
        Checks.due("one younger that needs nothing", x.wave(0, 2), -1);
        Checks.due("one broken", x.wave(0, 3), -1);
        Checks.due("one gone", x.wave(0, 4), -1);
        Checks.due("itself", x.wave(2, 2), 0);
        Checks.refused(x, "the waves of one broken", -16, () -> x.wave(3, 0));
        Checks.refused(x, "the waves of one gone", -16, () -> x.wave(4, 4));
        Checks.refused(x, "one behind the last", -11, () -> x.wave(3, 5));
        Checks.due("stop", x.stop(0), 2);
        Look.runningAre(x, 2);
        Look.stateIs(x, 3, 2);
        Look.stateIs(x, 4, 3);
    }

    /** "each that is left and was BOUND to one of them is BOUND anew for that SERVICE". */
    private static void boundAnewForEach() {
        PluginChains x = new PluginChains();
        Make.plug(x, 0, 5, "", "07", 0, "a");
        Make.plug(x, 0, 4, "", "0", 0, "b");
        Make.plug(x, 0, 3, "", "7", 0, "c");
        Make.plug(x, 0, 9, "", "3", 0, "d");
        Make.plug(x, 0, 0, "037", "", 0, "e");
        Make.plug(x, 0, 0, "0", "", 0, "f");
        for (int p = 0; p < 6; p++) {
            x.start(p);
        }
        Checks.due("provider", x.provider(4, 0), 0);
        Checks.due("provider", x.provider(4, 7), 0);
        Checks.due("stop", x.stop(0), 1);
        Checks.due("bound anew", x.provider(4, 0), 1);
        Checks.due("bound anew", x.provider(4, 7), 2);
        Checks.due("bound as it was", x.provider(4, 3), 3);
        Checks.due("bound anew", x.provider(5, 0), 1);
        Checks.due("stop", x.stop(3), 2);
        Checks.due("not bound", x.provider(4, 0), -1);
        Checks.due("bound as it was", x.provider(5, 0), 1);
    }

    /** "in the order in which it was; the latest 40"; "The i-th ..., the oldest kept 0. NONE: none such." */
    private static void logOfForty() {
        PluginChains x = new PluginChains();
        Make.plain(x, "a", "", "");
        Make.plain(x, "b", "", "");
        Checks.due("nothing logged", x.log(0), -1);
        int[] story = new int[126];
        for (int logged = 1; logged <= 125; logged++) {
            int p = logged / 2 % 2;
            story[logged - 1] = x.plugOf(p, 0) == 1 ? 200 + p : 100 + p;
            Checks.due("start or stop", x.plugOf(p, 0) == 1 ? x.stop(p) : x.start(p), 1);
            int lost = Math.max(0, logged - 40);
            Checks.due("ever logged", x.status(9), logged);
            Checks.due("the oldest", x.log(0), story[lost]);
            Checks.due("the latest", x.log(logged - lost - 1), story[logged - 1]);
            Checks.due("behind the latest", x.log(logged - lost), -1);
            Checks.due("ahead of the oldest", x.log(-1), -1);
        }
        PluginChains y = new PluginChains();
        for (int p = 0; p < 12; p++) {
            y.plug(0, 0, 0, 0, 0, 1 + p);
        }
        for (int i = 0; i < 53; i++) {
            y.start(i % 12);
            y.stop(i % 12);
        }
        for (int i = 0; i < 40; i++) {
            int at = 106 - 40 + i;
            Checks.due("log(" + i + ")", y.log(i), (at % 2 == 0 ? 100 : 200) + at / 2 % 12);
        }
        for (int i : new int[] {Look.LEAST, -1, 40, 106, Look.MOST}) {
            Checks.due("log(" + i + ")", y.log(i), -1);
        }
    }

    /** "-6 it isn't BROKEN": in each other state. */
    private static void mendsAtTheEdges() {
        PluginChains x = new PluginChains();
        Make.plug(x, 0, 0, "", "", 1, "a");
        Checks.refused(x, "mend one idle", -6, () -> x.mend(0));
        x.start(0);
        Checks.due("mend", x.mend(0), 0);
        Checks.refused(x, "mend one mended", -6, () -> x.mend(0));
        x.start(0);
        Checks.refused(x, "mend one running", -6, () -> x.mend(0));
        x.remove(0);
        Checks.refused(x, "mend one gone", -6, () -> x.mend(0));
    }

    /** "p is STOPPED, if it is RUNNING, and is GONE"; "-6 it is GONE". */
    private static void removesInEachState() {
        PluginChains x = twelve("", 0);
        Make.plain(x, "z", "", "");
        x.start(0);
        Checks.due("remove one that all need", x.remove(11), 12);
        Look.stateIs(x, 11, 3);
        for (int p = 0; p < 11; p++) {
            Look.stateIs(x, p, 0);
        }
        Checks.due("the last logged", x.log(23), 211);
        Checks.due("remove one idle", x.remove(0), 0);
        Checks.refused(x, "remove it again", -6, () -> x.remove(0));
        PluginChains y = new PluginChains();
        Make.plug(y, 0, 0, "", "", 1, "a");
        Make.plain(y, "b", "", "");
        y.start(0);
        y.start(1);
        Checks.due("remove one broken", y.remove(0), 0);
        Checks.due("broken", y.status(2), 0);
        Checks.due("remove one running", y.remove(1), 1);
        Checks.due("running", y.status(1), 0);
        Checks.due("gone", y.status(3), 2);
        Look.logIs(y, 300, 101, 201);
    }

    /** "its HOOKS stay, but never run". */
    private static void removedOnesNeverRun() {
        PluginChains x = Make.withOneRunning();
        x.hook(0, 0, 0, 0, 5);
        Look.fires(x, 0, 1, 0, 6);
        x.remove(0);
        Look.chainIs(x, 0);
        Look.fires(x, 0, 1, 0, 1);
        Checks.due("hooks", x.status(4), 1);
        Checks.due("the hook", x.hookOf(0, 4), 105);
        Checks.due("start", x.start(0), -6);
        x.days(40);
        Look.chainIs(x, 0);
    }

    /** "WOULD START ... nothing changed"; "0 if it would FAIL"; "-16 p is RUNNING". */
    private static void wouldInEachState() {
        PluginChains x = new PluginChains();
        Make.plug(x, 0, 0, "", "", 1, "a");
        Make.plain(x, "b", "", "");
        Checks.due("would of one with a fault", x.would(0, -1), 0);
        Checks.due("its faults stay", x.plugOf(0, 5), 1);
        Checks.due("would of one idle", x.would(1, -1), 1);
        Checks.due("would of one idle", x.would(1, 0), 1);
        Checks.due("would of one idle", x.would(1, 1), -1);
        x.start(0);
        x.start(1);
        Checks.due("would of one broken", x.would(0, -1), 0);
        Checks.due("would of one broken", x.would(0, 0), -1);
        Checks.refused(x, "would of one running", -16, () -> x.would(1, 5));
        x.remove(0);
        Checks.due("would of one gone", x.would(0, -1), 0);
        Checks.due("causes are those of start()", x.cause(0, 1), 5);
        Checks.due("logged", x.status(9), 2);
    }

    /** "The i-th RUNNING one by AGE, the OLDEST 0; NONE." */
    private static void runningAtTheEdges() {
        PluginChains x = new PluginChains();
        Checks.due("none", x.running(0), -1);
        for (int p = 0; p < 12; p++) {
            x.plug(0, 0, 0, 0, 0, 1 + p);
        }
        Checks.due("none running", x.running(0), -1);
        for (int p = 11; p >= 0; p--) {
            x.start(p);
        }
        Look.runningAre(x, 11, 10, 9, 8, 7, 6, 5, 4, 3, 2, 1, 0);
        for (int i : new int[] {Look.LEAST, -1, 12, Look.MOST}) {
            Checks.due("running(" + i + ")", x.running(i), -1);
        }
        x.remove(6);
        Checks.due("behind the last of eleven", x.running(11), -1);
        Checks.due("the last of eleven", x.running(10), 0);
    }

    /** "PLUG-INS (bits) RUNNING that OFFER it": none, all, the first and the last. */
    private static void offeredAtTheEdges() {
        PluginChains x = new PluginChains();
        for (int p = 0; p < 12; p++) {
            x.plug(0, 0, 0, p == 0 ? 1 : p == 11 ? 255 : 129, p == 1 ? 1 : 0, 1 + p);
        }
        Checks.due("none runs", x.offered(0), 0);
        for (int p = 0; p < 12; p++) {
            x.start(p);
        }
        Checks.due("all but the broken one", x.offered(0), 4095 - 2);
        Checks.due("all but the first and the broken one", x.offered(7), 4095 - 3);
        Checks.due("the last alone", x.offered(3), 2048);
        x.remove(11);
        Checks.due("none that is gone", x.offered(3), 0);
        Checks.refused(x, "offered(-1)", -1, () -> x.offered(-1));
        Checks.refused(x, "offered(8)", -1, () -> x.offered(8));
    }
}
