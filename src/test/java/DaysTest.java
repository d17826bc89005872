/** Promises 36 to 40: days, the seed, the image, the numbers. */
public final class DaysTest {
    private static int seed;

    public static void main(String[] args) {
        seeds();
        days();
        daysKeepNoCauses();
        dayRefusals();
        images();
        imagesOfMore();
        imagesAndShelves();
        imageLeaves();
        restoreRefusals();
        statuses();
        Checks.end("DaysTest");
    }

    private static void seeds() {
        PluginChains x = Make.withOneRunning();
        Checks.due("seed", x.seed(77), 1);
        Checks.due("seed", x.seed(-2147483648), 77);
        Checks.due("seed", x.seed(-1), -2147483648);
        Checks.due("status(6)", x.status(6), -1);
    }

    private static int draw(int below) {
        seed = seed * 1103515245 + 12345;
        return (seed >>> 16) % below;
    }

    /** One day after the other on a host, each done by its own call on another host. */
    private static void days() {
        PluginChains x = many();
        PluginChains y = many();
        for (int round = 0; round < 60; round++) {
            int n = 1 + round % 40;
            seed = round * 7919;
            x.seed(seed);
            for (int day = 0; day < n; day++) {
                int p = draw(6);
                int deed = draw(3);
                if (deed == 0 && y.plugOf(p, 0) != 1) {
                    y.start(p);
                } else if (deed == 1 && y.plugOf(p, 0) == 1) {
                    y.stop(p);
                } else if (deed == 2 && y.plugOf(p, 0) == 2) {
                    y.mend(p);
                }
            }
            Checks.due("days(" + n + ")", x.days(n), y.status(1));
            Checks.due("seed", x.status(6), seed);
            y.seed(seed);
            for (int what = 0; what < 7; what++) {
                Checks.due("status(" + what + ")", x.status(what), y.status(what));
            }
            for (int i = 0; i < 40; i++) {
                Checks.due("log(" + i + ")", x.log(i), y.log(i));
            }
            if (round == 30) {
                x.remove(4);
                y.remove(4);
            }
        }
    }

    private static PluginChains many() {
        PluginChains x = new PluginChains();
        Make.plug(x, 1, 2, "1", "0", 9, "a");
        Make.plug(x, 2, 2, "2", "1", 3, "b");
        Make.plug(x, 3, 2, "", "2", 0, "c");
        Make.plug(x, 4, 2, "0", "12", 4, "d");
        Make.plug(x, 0, 2, "", "012", 1, "e");
        Make.plug(x, 0, 2, "7", "0", 1, "f");
        return x;
    }

    private static void daysKeepNoCauses() {
        PluginChains x = new PluginChains();
        Make.plain(x, "a", "7", "");
        x.days(40);
        Checks.due("causes of days", x.status(7), 0);
        Checks.due("refusals of days", x.status(16), 0);
        x.start(0);
        x.days(40);
        Checks.due("causes stay", x.status(7), 1);
        Checks.due("causes stay", x.cause(0, 2), 7);
    }

    private static void dayRefusals() {
        PluginChains x = new PluginChains();
        Checks.refused(x, "days without plug-ins", -5, () -> x.days(0));
        PluginChains y = Make.withOneRunning();
        Checks.refused(y, "days(0)", -6, () -> y.days(0));
        Checks.refused(y, "days(-1)", -6, () -> y.days(-1));
        Checks.refused(y, "days(41)", -6, () -> y.days(41));
        y.days(40);
        Checks.due("days of one that is gone", y.remove(0) >= 0 ? y.days(40) : -9, 0);
    }

    private static PluginChains lived() {
        PluginChains x = many();
        x.start(2);
        x.start(1);
        x.start(4);
        x.mend(4);
        x.start(4);
        x.hook(2, 0, 3, 6, 5);
        x.hook(4, 0, 2, 0, 7);
        x.fire(0, 9);
        x.seed(99);
        return x;
    }

    private static void images() {
        PluginChains x = lived();
        Checks.due("image", x.image(), 6);
        String before = Dump.ofImage(lived());
        Checks.due("what is kept has a tally", x.tally(2), 9);
        Checks.same("an image changes nothing", Dump.ofImage(x), before);
        change(x);
        Checks.due("restore", x.restore(), 6);
        Checks.same("restored", Dump.ofImage(x), before);
        change(x);
        Checks.due("restore again", x.restore(), 6);
        Checks.same("restored again", Dump.ofImage(x), before);
    }

    private static void change(PluginChains x) {
        x.fire(0, 3);
        x.days(40);
        x.plug(0, 0, 0, 255, 0, Make.name("zz"));
        x.start(6);
        x.hook(6, 1, 0, 0, 0);
        x.fire(0, 3);
        x.remove(2);
        x.mend(0);
    }

    private static void imagesOfMore() {
        PluginChains x = new PluginChains();
        Checks.due("image of none", x.image(), 0);
        Make.plain(x, "a", "", "");
        x.hook(0, 0, 0, 0, 0);
        x.start(0);
        Checks.due("restore none", x.restore(), 0);
        Checks.due("status(0)", x.status(0), 0);
        Checks.due("status(4)", x.status(4), 0);
        Checks.due("status(5)", x.status(5), 0);
        Checks.due("plug anew", Make.plain(x, "a", "", ""), 0);
        Checks.due("its state", x.plugOf(0, 0), 0);
        Checks.due("image anew", x.image(), 1);
        x.remove(0);
        Checks.due("restore", x.restore(), 1);
        Checks.due("its state", x.plugOf(0, 0), 0);
    }

    private static void imagesAndShelves() {
        PluginChains x = Make.withOneRunning();
        x.image();
        Make.plain(x, "b", "", "");
        x.show(0, 1);
        x.show(1, 1);
        x.show(7, 1);
        x.show(4, 0);
        Make.ints(x, 2, 5, 6);
        x.restore();
        Checks.due("a shelf with one that there is", x.holds(4), 0);
        Checks.due("the first shelf", x.holds(0), -1);
        Checks.due("the last shelf", x.holds(7), -1);
        Checks.due("a shelf with one that there is not", x.holds(1), -1);
        Checks.due("a shelf with a row", x.holds(2), 102);
        Checks.due("its element", x.element(2, 1), 6);
        Checks.due("a shelf with nothing", x.holds(3), -1);
    }

    private static void imageLeaves() {
        PluginChains x = Make.withOneRunning();
        Make.plain(x, "b", "7", "");
        x.hook(0, 0, 0, 0, 1);
        x.image();
        x.stop(0);
        x.start(0);
        x.start(1);
        x.fire(0, 5);
        Make.read(x, "plug");
        int logged = x.status(9);
        x.restore();
        Checks.due("causes stay", x.status(7), 1);
        Checks.due("causes stay", x.cause(0, 0), 1);
        Checks.due("the log stays", x.status(9), logged);
        Checks.due("the log stays", x.log(1), 200);
        Checks.due("the trace stays", x.trace(0), 0);
        Checks.due("hooks that ran stay", x.status(8), 1);
        Checks.due("given stays", x.given(), 6);
        Checks.due("the fault stays", x.fault(), 4);
        Checks.due("refusals stay", x.status(16), 2);
        Checks.due("the clock is back", x.status(5), 1);
        Checks.due("the age is back", x.age(0), 0);
    }

    private static void restoreRefusals() {
        PluginChains x = Make.withOneRunning();
        Checks.refused(x, "restore without an image", -6, () -> x.restore());
    }

    private static void statuses() {
        PluginChains x = many();
        x.start(4);
        x.mend(4);
        x.start(4);
        x.start(1);
        x.remove(2);
        int[] due = {6, 1, 1, 1};
        for (int what = 0; what < due.length; what++) {
            Checks.due("status(" + what + ")", x.status(what), due[what]);
        }
        int[] none = {-2147483648, -1, 10, 18, 19, 2147483647};
        for (int what : none) {
            Checks.due("status(" + what + ")", x.status(what), -1);
        }
        Checks.due("refusals so far", x.status(16), 2);
    }
}
