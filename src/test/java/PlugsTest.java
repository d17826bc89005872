/** Promises 9 to 15: plug-ins, texts, what one tells. */
public final class PlugsTest {
    public static void main(String[] args) {
        plugs();
        plugRefusals();
        names();
        room();
        reads();
        textFaults();
        textNames();
        textRoom();
        textElements();
        readRefusals();
        plugsTell();
        strengths();
        ages();
        tallies();
        providers();
        providersByAge();
        bindingsMadeAnew();
        Checks.end("PlugsTest");
    }

    private static void plugs() {
        PluginChains x = new PluginChains();
        Checks.due("plug", x.plug(4, 9, 255, 254, 9, 531440), 0);
        Checks.due("plug", x.plug(0, 0, 0, 0, 0, 1), 1);
        Look.plugIs(x, 0, 0, 4, 9, 255, 254, 9, 10, 531440);
        Look.plugIs(x, 1, 0, 0, 0, 0, 0, 0, 0, 1);
        Checks.due("status(0)", x.status(0), 2);
    }

    private static void plugRefusals() {
        PluginChains x = new PluginChains();
        Make.plain(x, "a", "", "");
        Checks.refused(x, "plug kind 5", -1, () -> x.plug(5, 10, 256, 256, 10, 0));
        Checks.refused(x, "plug kind -1", -1, () -> x.plug(-1, 0, 0, 0, 0, 2));
        Checks.refused(x, "plug rank -1", -6, () -> x.plug(0, -1, 0, 0, 0, 2));
        Checks.refused(x, "plug rank 10", -6, () -> x.plug(0, 10, 0, 0, 0, 2));
        Checks.refused(x, "plug needs -1", -6, () -> x.plug(0, 0, -1, 0, 0, 2));
        Checks.refused(x, "plug needs 256", -6, () -> x.plug(0, 0, 256, 0, 0, 2));
        Checks.refused(x, "plug offers -1", -6, () -> x.plug(0, 0, 0, -1, 0, 2));
        Checks.refused(x, "plug offers 256", -6, () -> x.plug(0, 0, 0, 256, 0, 2));
        Checks.refused(x, "plug faults -1", -6, () -> x.plug(0, 0, 0, 0, -1, 2));
        Checks.refused(x, "plug faults 10", -6, () -> x.plug(0, 0, 0, 0, 10, 2));
        Checks.refused(x, "plug a name there is", -6, () -> x.plug(0, 0, 0, 0, 0, 1));
        x.remove(0);
        Checks.due("plug the name of one gone", x.plug(0, 0, 0, 0, 0, 1), 1);
        Checks.due("plug", x.plug(0, 0, 0, 0, 0, 2), 2);
    }

    private static void names() {
        int[] bad = {Integer.MIN_VALUE, -1, 0, 27, 54, 729, 730, 27 * 28, 19683, 19683 + 28, 19683 + 729 + 27,
            19683 + 729, 531441, 531442, Integer.MAX_VALUE};
        for (int name : bad) {
            PluginChains x = new PluginChains();
            Checks.refused(x, "plug name " + name, -6, () -> x.plug(0, 0, 0, 0, 0, name));
        }
        String[] good = {"a", "z", "aa", "zz", "aaa", "zzz", "aaaa", "zzzz", "bc", "azaz"};
        PluginChains x = new PluginChains();
        for (int i = 0; i < good.length; i++) {
            Checks.due("plug " + good[i], x.plug(0, 0, 0, 0, 0, Make.name(good[i])), i);
            Checks.due("its name", x.plugOf(i, 7), Make.name(good[i]));
        }
    }

    private static void room() {
        PluginChains x = new PluginChains();
        for (int i = 0; i < 12; i++) {
            Checks.due("plug " + i, x.plug(0, 0, 0, 0, 0, 1 + i), i);
        }
        Checks.refused(x, "plug a thirteenth", -7, () -> x.plug(0, 0, 0, 0, 0, 20));
        Checks.refused(x, "plug a wrong thirteenth", -6, () -> x.plug(0, 0, 0, 0, 0, 1));
        x.remove(3);
        Checks.refused(x, "plug when one is gone", -7, () -> x.plug(0, 0, 0, 0, 0, 20));
    }

    private static void reads() {
        PluginChains x = new PluginChains();
        Checks.due("read", Make.read(x, "plug b 4 9-0-0+7+1!-3!;plug abcd 1 0"), 2);
        Look.plugIs(x, 0, 0, 4, 9, 0b1001, 0b10000010, 2, 10, 2);
        Look.plugIs(x, 1, 0, 1, 0, 0, 0, 0, 0, Make.name("abcd"));
        Checks.due("fault()", x.fault(), -1);
        Checks.due("read another", Make.read(x, "plug aa 3 2+0!!!!!!!!!"), 1);
        Look.plugIs(x, 2, 0, 3, 2, 0, 1, 9, 6, Make.name("aa"));
        Checks.due("status(0)", x.status(0), 3);
    }

    private static void faultOf(String text, int due) {
        PluginChains x = new PluginChains();
        Make.plain(x, "a", "", "");
        Make.text(x, 0, text);
        Checks.countedOnly(x, "read of '" + text + "'", -6, () -> x.read(0));
        Checks.due("fault of '" + text + "'", x.fault(), due);
        Checks.due("plug-ins behind '" + text + "'", x.status(0), 1);
    }

    private static void textFaults() {
        faultOf("", 0);
        faultOf("p", 1);
        faultOf("plu", 3);
        faultOf("plux", 3);
        faultOf("Plug b 0 0", 0);
        faultOf(" plug b 0 0", 0);
        faultOf("plug", 4);
        faultOf("plug ", 5);
        faultOf("plugb", 4);
        faultOf("plug  b", 5);
        faultOf("plug B 0 0", 5);
        faultOf("plug { 0 0", 5);
        faultOf("plug ` 0 0", 5);
        faultOf("plug z{ 0 0", 6);
        faultOf("plug b", 6);
        faultOf("plug b0", 6);
        faultOf("plug bcde", 9);
        faultOf("plug bcdef 0 0", 9);
        faultOf("plug b ", 7);
        faultOf("plug b 5 0", 7);
        faultOf("plug b x 0", 7);
        faultOf("plug b 0", 8);
        faultOf("plug b 00", 8);
        faultOf("plug b 0 ", 9);
        faultOf("plug b 0 x", 9);
        faultOf("plug b 0 00", 10);
        faultOf("plug b 0 0 ", 10);
        faultOf("plug b 0 0-", 11);
        faultOf("plug b 0 0-8", 11);
        faultOf("plug b 0 0+9", 11);
        faultOf("plug b 0 0+ 1", 11);
        faultOf("plug b 0 0+1 ", 12);
        faultOf("plug b 0 0+11", 12);
        faultOf("plug b 0 0!!!!!!!!!!", 19);
        faultOf("plug b 0 0;", 11);
        faultOf("plug b 0 0;;", 11);
        faultOf("plug b 0 0; plug c 0 0", 11);
        faultOf("plug b 0 0;plug c 0 0;plug d 0 0+", 33);
        faultOf("plug0 0x", 4);
        faultOf("plug b 0!!x", 8);
        faultOf("plug b 0 ;plux", 9);
        faultOf("plug b 0 0-;plux", 11);
        faultOf("plug b 0 0-!x", 11);
    }

    private static void textNames() {
        faultOf("plug a 0 0", 5);
        faultOf("plug a ", 5);
        faultOf("plug a x", 5);
        faultOf("plug a", 6);
        faultOf("plug ax", 7);
        faultOf("plug a+", 6);
        faultOf("plug b 0 0;plug b 0 0", 16);
        faultOf("plug b 0 0;plug b", 17);
        faultOf("plug bcd 0 0;plug c 0 0;plug bcd 9", 29);
        PluginChains x = new PluginChains();
        Make.plain(x, "a", "", "");
        x.remove(0);
        Checks.due("read the name of one gone", Make.read(x, "plug a 0 0"), 1);
    }

    private static void textRoom() {
        PluginChains x = new PluginChains();
        for (int i = 0; i < 10; i++) {
            x.plug(0, 0, 0, 0, 0, 1 + i);
        }
        x.remove(0);
        Checks.due("read three where two have room", Make.read(x, "plug x 0 0;plug y 0 0;plug z 0 0"), -6);
        Checks.due("fault", x.fault(), 22);
        Checks.due("read no more than plug", Make.read(x, "plug x 0 0;plug y 0 0;plug"), -6);
        Checks.due("fault", x.fault(), 22);
        Checks.due("read less than plug", Make.read(x, "plug x 0 0;plug y 0 0;plu"), -6);
        Checks.due("fault", x.fault(), 25);
        Checks.due("read a word that is not plug", Make.read(x, "plug x 0 0;plug y 0 0;plus"), -6);
        Checks.due("fault", x.fault(), 25);
        Checks.due("status(0)", x.status(0), 10);
        Checks.due("read two", Make.read(x, "plug x 0 0;plug y 0 0"), 2);
        Checks.due("read one more", Make.read(x, "plug z 0 0"), -6);
        Checks.due("fault", x.fault(), 0);
        PluginChains y = new PluginChains();
        StringBuilder text = new StringBuilder("plug a 0 0");
        for (char c = 'b'; c <= 'l'; c++) {
            text.append(";plug ").append(c).append(" 0 0");
        }
        Checks.due("read twelve", Make.read(y, text.toString()), 12);
    }

    private static void textElements() {
        String text = "plug b 0 0";
        long[] more = {1L << 32, 0, 1L << 32, 0};
        for (int sort = 1; sort < 4; sort++) {
            PluginChains x = new PluginChains();
            x.row(0, sort, text.length());
            for (int i = 0; i < text.length(); i++) {
                x.set(0, i, text.charAt(i) + (1L << 32));
            }
            Checks.due("read of sort " + sort, x.read(0), 1);
        }
        PluginChains x = new PluginChains();
        Make.text(x, 0, text);
        x.set(0, 3, 'g' + 256);
        Checks.due("read of a byte's lowest bits", x.read(0), 1);
        x.row(1, 2, 10);
        x.copy(0, 1, 0, 0, 10);
        Make.ints(x, 1, 'p', 'l', 'u', 'g' + 256, ' ');
        Checks.due("read of an int above", x.read(1), -6);
        Checks.due("fault", x.fault(), 3);
        Make.ints(x, 1, 'p', 'l', 'u', 'g', ' ', 'c', ' ', Integer.MIN_VALUE);
        Checks.due("read of the least int", x.read(1), -6);
        Checks.due("fault", x.fault(), 7);
        Make.ints(x, 1, -1);
        Checks.due("read of -1", x.read(1), -6);
        Checks.due("fault", x.fault(), 0);
    }

    private static void readRefusals() {
        PluginChains x = Make.withOneRunning();
        x.show(0, 0);
        Make.read(x, "plug");
        Checks.due("fault", x.fault(), 4);
        Checks.refused(x, "read shelf 8", -1, () -> x.read(8));
        Checks.refused(x, "read shelf -1", -1, () -> x.read(-1));
        Checks.refused(x, "read a plug-in", -2, () -> x.read(0));
        Checks.refused(x, "read nothing", -3, () -> x.read(1));
        Checks.due("fault stays", x.fault(), 4);
        Make.read(x, "plug q 0 0");
        Checks.due("fault of a text that stands", x.fault(), -1);
    }

    private static void plugsTell() {
        PluginChains x = Make.withOneRunning();
        Checks.due("state running", x.plugOf(0, 0), 1);
        x.stop(0);
        Checks.due("state idle", x.plugOf(0, 0), 0);
        Make.plug(x, 0, 0, "", "", 1, "b");
        x.start(1);
        Checks.due("state broken", x.plugOf(1, 0), 2);
        x.remove(1);
        Checks.due("state gone", x.plugOf(1, 0), 3);
        Checks.refused(x, "plugOf 2", -5, () -> x.plugOf(2, 0));
        Checks.refused(x, "plugOf -1", -5, () -> x.plugOf(-1, 0));
        Checks.refused(x, "plugOf what 8", -5, () -> x.plugOf(0, 8));
        Checks.refused(x, "plugOf what -1", -5, () -> x.plugOf(0, -1));
    }

    private static void strengths() {
        int[][] due = {{2, 5, 5, 10, 6}, {7, 10, 7, 20, 8}};
        int[] ranks = {2, 7};
        for (int i = 0; i < 2; i++) {
            PluginChains x = new PluginChains();
            for (int kind = 0; kind < 5; kind++) {
                Make.plug(x, kind, ranks[i], "0", "357", 0, "" + (char) ('a' + kind));
                Checks.due("strength of kind " + kind, x.plugOf(kind, 6), due[i][kind]);
            }
        }
    }

    private static void ages() {
        PluginChains x = new PluginChains();
        for (String name : new String[] {"a", "b", "c"}) {
            Make.plain(x, name, "", "");
        }
        x.start(1);
        x.start(0);
        Checks.due("age", x.age(1), 0);
        Checks.due("age", x.age(0), 1);
        Checks.due("age of one idle", x.age(2), -1);
        x.stop(1);
        Checks.due("age of one stopped", x.age(1), -1);
        x.start(1);
        Checks.due("age anew", x.age(1), 2);
        Checks.due("clock", x.status(5), 3);
        Checks.refused(x, "age 3", -11, () -> x.age(3));
        Checks.refused(x, "age -1", -11, () -> x.age(-1));
    }

    private static void tallies() {
        PluginChains x = Make.withOneRunning();
        Checks.due("tally at first", x.tally(0), 0);
        x.hook(0, 0, 0, 6, 0);
        x.fire(0, 2147483647);
        x.fire(0, 2);
        Checks.due("tally wraps", x.tally(0), -2147483647);
        x.stop(0);
        Checks.due("tally stays", x.tally(0), -2147483647);
        Checks.due("tally of none", x.tally(1), 0);
        Checks.due("tally of -1", x.tally(-1), 0);
        Checks.due("tally refuses nothing", x.status(11) + x.status(15), 0);
    }

    private static void providers() {
        PluginChains x = new PluginChains();
        Make.plug(x, 0, 3, "", "01", 0, "a");
        Make.plug(x, 0, 4, "", "0", 0, "b");
        Make.plug(x, 0, 4, "", "0", 0, "c");
        Make.plug(x, 0, 9, "01", "0", 0, "d");
        Make.plug(x, 0, 9, "", "01", 0, "e");
        for (int p : new int[] {0, 2, 1, 3, 4}) {
            x.start(p);
        }
        Checks.due("the strongest, of two the older", x.provider(3, 0), 2);
        Checks.due("provider", x.provider(3, 1), 0);
        Checks.due("of a service not needed", x.provider(3, 2), -1);
        Checks.due("of one that needs none", x.provider(0, 0), -1);
        x.stop(3);
        Checks.due("of one idle", x.provider(3, 0), -1);
        x.start(3);
        Checks.due("of a stronger older one", x.provider(3, 0), 4);
        Checks.refused(x, "provider of 5", -11, () -> x.provider(5, 0));
        Checks.refused(x, "provider of -1", -11, () -> x.provider(-1, 0));
        Checks.refused(x, "provider of service 8", -11, () -> x.provider(0, 8));
        Checks.refused(x, "provider of service -1", -11, () -> x.provider(0, -1));
    }

    private static void providersByAge() {
        PluginChains x = new PluginChains();
        Make.plug(x, 0, 4, "", "0", 0, "a");
        Make.plug(x, 0, 4, "", "0", 0, "b");
        Make.plug(x, 0, 3, "", "0", 0, "c");
        Make.plug(x, 0, 0, "0", "", 0, "d");
        for (int p : new int[] {2, 0, 1, 3}) {
            x.start(p);
        }
        Checks.due("neither the younger of two nor an older weaker one", x.provider(3, 0), 0);
    }

    private static void bindingsMadeAnew() {
        PluginChains x = new PluginChains();
        Make.plug(x, 0, 9, "", "0", 0, "a");
        Make.plug(x, 0, 1, "", "0", 0, "b");
        Make.plug(x, 0, 5, "", "0", 0, "c");
        Make.plug(x, 0, 0, "0", "", 0, "d");
        for (int p = 0; p < 4; p++) {
            x.start(p);
        }
        Checks.due("bound", x.provider(3, 0), 0);
        x.stop(0);
        Checks.due("bound anew", x.provider(3, 0), 2);
        x.start(0);
        Checks.due("a younger one binds nobody", x.provider(3, 0), 2);
        x.stop(2);
        Checks.due("bound anew to an older one", x.provider(3, 0), 1);
        Checks.due("stopping the last older one stops it", x.stop(1), 2);
        Checks.due("not bound", x.provider(3, 0), -1);
    }
}
