/** Promises 1 to 8: a new host, shelves, rows. */
public final class ShelvesTest {
    public static void main(String[] args) {
        newHost();
        rows();
        sets();
        sortsNarrow();
        copies();
        copiesOntoItself();
        copyRefusals();
        elements();
        shows();
        sayings();
        sayingRefusals();
        Checks.due("NONE", PluginChains.NONE, -1);
        Checks.end("ShelvesTest");
    }

    private static void newHost() {
        PluginChains x = new PluginChains();
        int[] due = {0, 0, 0, 0, 0, 0, 1, 0, 0, 0, -1, 0, 0, 0, 0, 0, 0, 0, -1};
        for (int what = 0; what < due.length; what++) {
            Checks.due("new: status(" + what + ")", x.status(what), due[what]);
        }
        for (int s = -1; s <= 8; s++) {
            Checks.due("new: holds(" + s + ")", x.holds(s), -1);
        }
        Checks.due("new: fault()", x.fault(), -1);
        Checks.due("new: given()", x.given(), 0);
        Checks.due("new: running(0)", x.running(0), -1);
        Checks.due("new: log(0)", x.log(0), -1);
        Checks.due("new: trace(0)", x.trace(0), -1);
        Checks.due("new: offered(0)", x.offered(0), 0);
    }

    private static void rows() {
        PluginChains x = new PluginChains();
        for (int sort = 0; sort < 4; sort++) {
            Checks.due("row", x.row(sort, sort, 160), 1);
            Checks.due("holds of a row", x.holds(sort), 100 + sort);
        }
        Checks.due("row of none", x.row(7, 0, 0), 1);
        Checks.due("set in a row of none", x.set(7, 0, 1), -5);
        x.set(0, 159, 5);
        Make.plain(x, "a", "", "");
        x.show(6, 0);
        Checks.due("row in a plug-in's place", x.row(6, 1, 2), 1);
        Checks.due("set in it", x.set(6, 1, 4), 1);
        Checks.due("holds of it", x.holds(6), 101);
        Checks.due("row again", x.row(0, 3, 160), 1);
        Checks.due("a new row's element", x.element(0, 159), 0);
        Checks.refused(x, "row(-1)", -1, () -> x.row(-1, 0, 1));
        Checks.refused(x, "row(8)", -1, () -> x.row(8, 9, -1));
        Checks.refused(x, "row n -1", -4, () -> x.row(0, 9, -1));
        Checks.refused(x, "row sort 4", -6, () -> x.row(0, 4, 161));
        Checks.refused(x, "row sort -1", -6, () -> x.row(0, -1, 0));
        Checks.refused(x, "row n 161", -7, () -> x.row(0, 0, 161));
    }

    private static void sets() {
        PluginChains x = Make.withOneRunning();
        x.row(0, 2, 3);
        x.show(1, 0);
        Checks.due("set", x.set(0, 2, 77), 1);
        Checks.due("element", x.element(0, 2), 77);
        Checks.refused(x, "set shelf -1", -1, () -> x.set(-1, 0, 1));
        Checks.refused(x, "set shelf 8", -1, () -> x.set(8, 0, 1));
        Checks.refused(x, "set in a plug-in", -2, () -> x.set(1, 0, 1));
        Checks.refused(x, "set in nothing", -3, () -> x.set(2, -9, 1));
        Checks.refused(x, "set -1", -5, () -> x.set(0, -1, 1));
        Checks.refused(x, "set 3", -5, () -> x.set(0, 3, 1));
    }

    private static void sortsNarrow() {
        PluginChains x = new PluginChains();
        long v = 0x123456789ABCDEF0L;
        long[] due = {(byte) v, (short) v, (int) v, v};
        for (int sort = 0; sort < 4; sort++) {
            x.row(sort, sort, 2);
            x.set(sort, 1, v);
            Checks.due("narrowed to sort " + sort, x.element(sort, 1), due[sort]);
        }
        x.set(0, 0, 200);
        Checks.due("a byte of 200", x.element(0, 0), -56);
        x.set(1, 0, 40000);
        Checks.due("a short of 40000", x.element(1, 0), -25536);
        x.set(3, 0, Long.MIN_VALUE);
        Checks.due("a long", x.element(3, 0), Long.MIN_VALUE);
    }

    private static void copies() {
        PluginChains x = new PluginChains();
        Make.ints(x, 0, 1, 2, 3, 4, 5);
        Make.ints(x, 1, 6, 7, 8);
        Checks.due("copy", x.copy(0, 1, 3, 1, 2), 1);
        Look.elementsAre(x, 1, 6, 4, 5);
        Look.elementsAre(x, 0, 1, 2, 3, 4, 5);
        Checks.due("copy none at the ends", x.copy(0, 1, 5, 3, 0), 1);
        Look.elementsAre(x, 1, 6, 4, 5);
    }

    private static void copiesOntoItself() {
        PluginChains x = new PluginChains();
        Make.ints(x, 0, 1, 2, 3, 4, 5);
        x.copy(0, 0, 0, 1, 4);
        Look.elementsAre(x, 0, 1, 1, 2, 3, 4);
        x.copy(0, 0, 1, 0, 4);
        Look.elementsAre(x, 0, 1, 2, 3, 4, 4);
    }

    private static void copyRefusals() {
        PluginChains x = Make.withOneRunning();
        x.row(0, 2, 5);
        x.row(1, 2, 3);
        x.row(2, 3, 5);
        x.show(3, 0);
        Checks.refused(x, "copy from shelf 8", -1, () -> x.copy(8, 3, 0, 0, 1));
        Checks.refused(x, "copy to shelf -1", -1, () -> x.copy(3, -1, 0, 0, 1));
        Checks.refused(x, "copy from a plug-in to nothing", -2, () -> x.copy(3, 4, 0, 0, 1));
        Checks.refused(x, "copy from nothing to a plug-in", -2, () -> x.copy(4, 3, 0, 0, 1));
        Checks.refused(x, "copy of two sorts", -2, () -> x.copy(0, 2, 0, 0, -1));
        Checks.refused(x, "copy from nothing", -3, () -> x.copy(4, 2, 0, 0, -1));
        Checks.refused(x, "copy to nothing", -3, () -> x.copy(2, 4, 0, 0, -1));
        Checks.refused(x, "copy of n -1", -4, () -> x.copy(0, 1, -1, -1, -1));
        Checks.refused(x, "copy i -1", -5, () -> x.copy(0, 1, -1, 0, 1));
        Checks.refused(x, "copy j -1", -5, () -> x.copy(0, 1, 0, -1, 1));
        Checks.refused(x, "copy behind the first's end", -5, () -> x.copy(0, 1, 4, 0, 2));
        Checks.refused(x, "copy behind the other's end", -5, () -> x.copy(0, 1, 0, 2, 2));
        Checks.refused(x, "copy none behind an end", -5, () -> x.copy(0, 1, 6, 0, 0));
        Checks.refused(x, "copy none behind the other end", -5, () -> x.copy(0, 1, 0, 4, 0));
        int most = Integer.MAX_VALUE;
        Checks.refused(x, "copy beyond all", -5, () -> x.copy(0, 1, most, most, most));
        Checks.refused(x, "copy very many", -5, () -> x.copy(0, 1, 1, 1, most));
    }

    private static void elements() {
        PluginChains x = Make.withOneRunning();
        x.row(0, 0, 2);
        x.set(0, 0, 9);
        x.show(1, 0);
        String before = Dump.of(x);
        Checks.due("element", x.element(0, 0), 9);
        Checks.due("element not set", x.element(0, 1), 0);
        Checks.due("element -1", x.element(0, -1), 0);
        Checks.due("element 2", x.element(0, 2), 0);
        Checks.due("element of a plug-in", x.element(1, 0), 0);
        Checks.due("element of nothing", x.element(2, 0), 0);
        Checks.due("element of shelf -1", x.element(-1, 0), 0);
        Checks.due("element of shelf 8", x.element(8, 0), 0);
        Checks.same("element changes nothing", Dump.of(x), before);
        for (int i = 11; i <= 17; i++) {
            Checks.due("element refuses nothing: status " + i, x.status(i), 0);
        }
    }

    private static void shows() {
        PluginChains x = Make.withOneRunning();
        Make.plain(x, "b", "", "");
        Checks.due("show", x.show(0, 1), 1);
        Checks.due("holds", x.holds(0), 1);
        Checks.due("show in a row's place", x.row(0, 1, 3) + x.show(0, 0), 2);
        Checks.due("holds", x.holds(0), 0);
        x.remove(0);
        Checks.due("show one that is gone", x.show(1, 0), 1);
        Checks.due("show nothing", x.show(0, -1), 0);
        Checks.due("holds nothing", x.holds(0), -1);
        x.row(0, 2, 2);
        Checks.due("show nothing in a row's place", x.show(0, -1), 0);
        Checks.due("holds nothing", x.holds(0), -1);
        Checks.due("element of the row that was", x.set(0, 0, 1), -3);
        Checks.refused(x, "show shelf 8", -1, () -> x.show(8, 0));
        Checks.refused(x, "show shelf -1", -1, () -> x.show(-1, -1));
        Checks.refused(x, "show plug-in 2", -1, () -> x.show(0, 2));
        Checks.refused(x, "show plug-in -2", -1, () -> x.show(0, -2));
    }

    private static void sayings() {
        PluginChains x = new PluginChains();
        for (int kind = 0; kind < 5; kind++) {
            Make.plug(x, kind, 3, "", "0146", 0, "" + (char) ('a' + kind));
            x.show(kind, kind);
        }
        int none = -2;
        int[][] due = {
            {3, none, none, none, none},
            {3, 4, none, none, none},
            {3, none, 5, none, none},
            {3, 4, none, 4, none},
            {3, none, 6, none, 6},
        };
        for (int s = 0; s < 5; s++) {
            for (int kind = 0; kind < 5; kind++) {
                Checks.due("says(" + s + ", " + kind + ")", x.says(s, kind), due[s][kind]);
            }
        }
    }

    private static void sayingRefusals() {
        PluginChains x = Make.withOneRunning();
        x.show(0, 0);
        x.row(1, 0, 1);
        Checks.refused(x, "says shelf 8", -1, () -> x.says(8, 0));
        Checks.refused(x, "says shelf -1", -1, () -> x.says(-1, 0));
        Checks.refused(x, "says kind 5", -1, () -> x.says(0, 5));
        Checks.refused(x, "says kind -1 of nothing", -1, () -> x.says(2, -1));
        Checks.refused(x, "says of a row", -2, () -> x.says(1, 0));
        Checks.refused(x, "says of another kind", -2, () -> x.says(0, 1));
        Checks.refused(x, "says of nothing", -3, () -> x.says(2, 3));
    }
}
