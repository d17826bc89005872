/** The edges of shelves, rows and what a plug-in on a shelf says; each test tells its sentence. */
public final class ShelfEdgesTest {
    public static void main(String[] args) {
        newShelves();
        firstAndLastShelf();
        emptyRow();
        fullRow();
        newRowForgets();
        refusedRowKeepsTheOld();
        lowestBits();
        copiesAsTheyWereAhead();
        copiesUpToTheEnds();
        copiesKeepLongs();
        shownOnes();
        ofLongsTheLowestBits();
        saysByKind();
        saysAtTheEdges();
        Checks.end("ShelfEdgesTest");
    }

    /** "SHELVES 0 to 7 hold NOTHING (at first)". */
    private static void newShelves() {
        PluginChains x = new PluginChains();
        for (int s : new int[] {Look.LEAST, -1, 0, 1, 2, 3, 4, 5, 6, 7, 8, Look.MOST}) {
            Checks.due("holds(" + s + ") at first", x.holds(s), -1);
            Checks.due("element(" + s + ", 0) at first", x.element(s, 0), 0);
            int due = s < 0 || s > 7 ? -1 : -3;
            Checks.due("set on shelf " + s + " at first", x.set(s, 0, 1), due);
            Checks.due("read of shelf " + s + " at first", x.read(s), due);
        }
        Checks.due("refusals -1", x.status(11), 8);
        Checks.due("refusals -3", x.status(13), 16);
    }

    /** "SHELVES 0 to 7": the first and the last hold a row and a plug-in, each apart from the others. */
    private static void firstAndLastShelf() {
        PluginChains x = Make.withOneRunning();
        for (int s = 0; s < 8; s++) {
            Checks.due("row(" + s + ")", x.row(s, s % 4, s + 1), 1);
            x.set(s, s, 10 + s);
        }
        for (int s = 0; s < 8; s++) {
            Checks.due("holds(" + s + ")", x.holds(s), 100 + s % 4);
            Checks.due("the last of shelf " + s, x.element(s, s), 10 + s);
            Checks.due("set behind the last of shelf " + s, x.set(s, s + 1, 1), -5);
        }
        for (int s : new int[] {0, 7}) {
            Checks.due("show(" + s + ")", x.show(s, 0), 1);
            Checks.due("holds(" + s + ")", x.holds(s), 0);
        }
        Checks.due("its neighbour", x.holds(1), 101);
        Checks.due("its neighbour", x.holds(6), 102);
    }

    /** "0 to 160 elements": a row of none. */
    private static void emptyRow() {
        PluginChains x = new PluginChains();
        for (int sort = 0; sort < 4; sort++) {
            Checks.due("row of none", x.row(0, sort, 0), 1);
            Checks.due("holds", x.holds(0), 100 + sort);
            Checks.due("element 0", x.element(0, 0), 0);
            Checks.refused(x, "set 0", -5, () -> x.set(0, 0, 1));
            Checks.refused(x, "set -1", -5, () -> x.set(0, -1, 1));
            Checks.due("copy none of none", x.copy(0, 0, 0, 0, 0), 1);
            Checks.refused(x, "copy one of none", -5, () -> x.copy(0, 0, 0, 0, 1));
            Checks.due("judge none of none", x.judge(0, 0, 0), -1);
            Checks.refused(x, "judge one of none", -15, () -> x.judge(0, 0, 1));
            Checks.countedOnly(x, "read none", -6, () -> x.read(0));
            Checks.due("its fault", x.fault(), 0);
        }
    }

    /** "0 to 160 elements, 0 at first": the greatest row, every element of it. */
    private static void fullRow() {
        PluginChains x = new PluginChains();
        for (int sort = 0; sort < 4; sort++) {
            Checks.due("row of 160", x.row(5, sort, 160), 1);
            for (int i = 0; i < 160; i++) {
                Checks.due("element " + i + " at first", x.element(5, i), 0);
            }
            for (int i = 0; i < 160; i++) {
                Checks.due("set " + i, x.set(5, i, i - 80), 1);
            }
            for (int i = 0; i < 160; i++) {
                Checks.due("element " + i, x.element(5, i), i - 80);
            }
            Checks.due("element 160", x.element(5, 160), 0);
            Checks.refused(x, "set 160", -5, () -> x.set(5, 160, 1));
            int sortGiven = sort;
            Checks.refused(x, "row of 161", -7, () -> x.row(5, sortGiven, 161));
        }
    }

    /** "SHELF s holds a new ROW": nothing of what stood there comes back. */
    private static void newRowForgets() {
        PluginChains x = Make.withOneRunning();
        Make.ints(x, 0, 1, 2, 3, 4, 5);
        x.row(0, 2, 2);
        Checks.due("element behind the shorter row", x.element(0, 4), 0);
        x.row(0, 2, 5);
        Look.elementsAre(x, 0, 0, 0, 0, 0, 0);
        Make.ints(x, 0, 7);
        x.show(0, 0);
        x.row(0, 2, 1);
        Look.elementsAre(x, 0, 0);
        Make.ints(x, 0, 7);
        x.show(0, -1);
        x.row(0, 3, 1);
        Look.elementsAre(x, 0, 0);
    }

    /** REFUSALS: "nothing changes": the row, the plug-in or nothing that the shelf held stays. */
    private static void refusedRowKeepsTheOld() {
        PluginChains x = Make.withOneRunning();
        Make.ints(x, 0, 7, 8);
        x.show(1, 0);
        for (int s = 0; s < 3; s++) {
            int shelf = s;
            Checks.refused(x, "row of -1", -4, () -> x.row(shelf, 0, -1));
            Checks.refused(x, "row of sort 4", -6, () -> x.row(shelf, 4, 1));
            Checks.refused(x, "row of 161", -7, () -> x.row(shelf, 3, 161));
            Checks.refused(x, "show one that isn't there", -1, () -> x.show(shelf, 1));
        }
        Look.elementsAre(x, 0, 7, 8, 0);
    }

    /** "what is put in keeps its lowest bits": the last value that fits and the first that wraps. */
    private static void lowestBits() {
        PluginChains x = new PluginChains();
        for (int sort = 0; sort < 4; sort++) {
            int bits = 8 << sort;
            x.row(sort, sort, 1);
            long most = (1L << bits - 1) - 1;
            long[] values = {0, 1, -1, most, most + 1, -most - 1, -most - 2, 2 * most + 1, 2 * most + 2,
                Long.MAX_VALUE, Long.MIN_VALUE, 0x123456789ABCDEF0L, 0xFEDCBA9876543210L};
            for (long value : values) {
                Checks.due("set", x.set(sort, 0, value), 1);
                Checks.due(value + " in sort " + sort, x.element(sort, 0), value << 64 - bits >> 64 - bits);
            }
        }
    }

    /** "(as they were ahead)": a row copied onto itself, either way, from end to end. */
    private static void copiesAsTheyWereAhead() {
        for (int sort = 0; sort < 4; sort++) {
            for (int shift : new int[] {-159, -80, -1, 0, 1, 80, 159}) {
                PluginChains x = new PluginChains();
                x.row(0, sort, 160);
                for (int i = 0; i < 160; i++) {
                    x.set(0, i, 100 - i);
                }
                int from = Math.max(0, -shift);
                int to = Math.max(0, shift);
                Checks.due("copy", x.copy(0, 0, from, to, 160 - Math.abs(shift)), 1);
                for (int i = 0; i < 160; i++) {
                    boolean copied = i >= to && i < 160 - from;
                    Checks.due("element " + i, x.element(0, i), 100 - (copied ? i - shift : i));
                }
            }
        }
    }

    /** "-5 i or j below 0, or an end that isn't there": the last place that there is, on both sides. */
    private static void copiesUpToTheEnds() {
        PluginChains x = new PluginChains();
        Make.ints(x, 0, 1, 2, 3, 4);
        Make.ints(x, 1, 5, 6);
        Checks.due("copy all that there is", x.copy(1, 0, 0, 2, 2), 1);
        Look.elementsAre(x, 0, 1, 2, 5, 6);
        Checks.due("copy the last", x.copy(0, 1, 3, 1, 1), 1);
        Look.elementsAre(x, 1, 5, 6);
        Checks.due("copy the first onto the last", x.copy(0, 1, 0, 1, 1), 1);
        Look.elementsAre(x, 1, 5, 1);
        Checks.due("copy none at both ends", x.copy(0, 1, 4, 2, 0), 1);
        Checks.refused(x, "copy none behind the end of one", -5, () -> x.copy(0, 1, 5, 2, 0));
        Checks.refused(x, "copy none behind the end of the other", -5, () -> x.copy(0, 1, 4, 3, 0));
        Checks.refused(x, "copy one behind the last", -5, () -> x.copy(0, 1, 4, 0, 1));
        Checks.refused(x, "copy one to behind the last", -5, () -> x.copy(0, 1, 0, 2, 1));
        Checks.refused(x, "copy more than the other has", -5, () -> x.copy(0, 1, 0, 0, 3));
        Checks.refused(x, "copy more than the one has", -5, () -> x.copy(1, 0, 0, 0, 3));
        Checks.refused(x, "copy i -1", -5, () -> x.copy(0, 1, -1, 0, 2));
        Checks.refused(x, "copy j -1", -5, () -> x.copy(0, 1, 0, -1, 2));
        Checks.refused(x, "copy none from -1", -5, () -> x.copy(0, 1, -1, 0, 0));
    }

    /** "ROWS of two SORTS": of one sort all bits come over. */
    private static void copiesKeepLongs() {
        PluginChains x = new PluginChains();
        x.row(0, 3, 2);
        x.row(1, 3, 2);
        x.set(0, 0, Long.MIN_VALUE);
        x.set(0, 1, Long.MAX_VALUE);
        x.copy(0, 1, 0, 0, 2);
        Look.elementsAre(x, 1, Long.MIN_VALUE, Long.MAX_VALUE);
        for (int sort = 0; sort < 3; sort++) {
            x.row(2, sort, 2);
            Checks.refused(x, "copy from longs to sort " + sort, -2, () -> x.copy(0, 2, 0, 0, 1));
            Checks.refused(x, "copy to longs from sort " + sort, -2, () -> x.copy(2, 0, 0, 0, 1));
        }
    }

    /** "SHELF s holds one of the PLUG-INS, or NOTHING (p NONE)": the first, the last, one gone. */
    private static void shownOnes() {
        PluginChains x = new PluginChains();
        for (int p = 0; p < 12; p++) {
            x.plug(0, p % 10, 0, 0, 0, 1 + p);
        }
        Checks.due("show the last", x.show(0, 11), 1);
        Checks.due("show it again", x.show(7, 11), 1);
        Checks.due("show the first", x.show(1, 0), 1);
        Checks.refused(x, "show one behind the last", -1, () -> x.show(0, 12));
        Checks.due("holds", x.holds(0), 11);
        Checks.due("holds", x.holds(7), 11);
        x.remove(11);
        Checks.due("holds one gone", x.holds(0), 11);
        Checks.due("one gone still says", x.says(0, 0), 1);
        Checks.due("show nothing", x.show(0, -1), 0);
        Checks.due("show nothing on a shelf with nothing", x.show(0, -1), 0);
        Checks.due("holds nothing", x.holds(0), -1);
        Checks.due("another shelf with it stays", x.holds(7), 11);
    }

    /** "All is read as ints (of longs the lowest 32 bits)": texts and tables. */
    private static void ofLongsTheLowestBits() {
        PluginChains x = Make.withOneRunning();
        String text = "plug b 1 2";
        x.row(0, 3, 10);
        for (int i = 0; i < 10; i++) {
            x.set(0, i, text.charAt(i) + ((i + 1L) << 32));
        }
        Checks.due("read", x.read(0), 1);
        x.set(0, 9, '2' + (1L << 31));
        x.set(0, 5, 'c');
        Checks.due("read", x.read(0), -6);
        Checks.due("bit 31 counts", x.fault(), 9);
        x.row(1, 3, 2);
        x.set(1, 0, 1L << 31);
        x.set(1, 1, Integer.MIN_VALUE);
        Checks.due("judge", x.judge(1, 0, 1), -1);
        x.set(1, 0, (1L << 31) + (1L << 32));
        Checks.due("judge", x.judge(1, 0, 1), -1);
        x.set(1, 0, 1L << 30);
        Checks.due("judge", x.judge(1, 0, 1), 0);
        Checks.due("the row keeps its longs", x.element(1, 1), Integer.MIN_VALUE);
    }

    /** "-2 also one of another KIND": each kind taken for each. */
    private static void saysByKind() {
        boolean[][] under = {
            {true, false, false, false, false},
            {true, true, false, false, false},
            {true, false, true, false, false},
            {true, true, false, true, false},
            {true, false, true, false, true},
        };
        for (int kind = 0; kind < 5; kind++) {
            PluginChains x = new PluginChains();
            Make.plug(x, kind, 2, "", "357", 0, "a");
            x.show(0, 0);
            int[] says = {2, 3, x.plugOf(0, 6), 3, x.plugOf(0, 6)};
            for (int as = 0; as < 5; as++) {
                int taken = as;
                if (under[kind][as]) {
                    Checks.due("kind " + kind + " says as " + as, x.says(0, as), says[as]);
                } else {
                    Checks.refused(x, "kind " + kind + " says as " + as, -2, () -> x.says(0, taken));
                }
            }
            Checks.refused(x, "says as -1", -1, () -> x.says(0, -1));
            Checks.refused(x, "says as 5", -1, () -> x.says(0, 5));
        }
    }

    /** "PLAIN its RANK; EAGER, KEEN how many SERVICES it OFFERS; STEADY, SOUND its STRENGTH". */
    private static void saysAtTheEdges() {
        int[] ranks = {0, 4, 5, 6, 9};
        for (int rank : ranks) {
            for (int offers : new int[] {0, 1, 128, 255}) {
                PluginChains x = new PluginChains();
                for (int kind = 0; kind < 5; kind++) {
                    x.plug(kind, rank, 0, offers, 0, 1 + kind);
                    x.show(kind, kind);
                    Checks.due("says as PLAIN", x.says(kind, 0), rank);
                }
                int count = Integer.bitCount(offers);
                Checks.due("EAGER says", x.says(1, 1), count);
                Checks.due("KEEN says as EAGER", x.says(3, 1), count);
                Checks.due("KEEN says", x.says(3, 3), count);
                Checks.due("STEADY says", x.says(2, 2), Math.max(5, rank));
                Checks.due("SOUND says as STEADY", x.says(4, 2), Math.max(5, rank) + 1);
                Checks.due("SOUND says", x.says(4, 4), Math.max(5, rank) + 1);
            }
        }
    }
}
