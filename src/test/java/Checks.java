import java.util.function.LongSupplier;

/** Counts answers that are due and those that are not. */
final class Checks {
    private static int made = 0;
    private static int wrong = 0;

    private Checks() {
    }

    static void due(String what, long got, long want) {
        made++;
        if (got != want) {
            tell(what + " answered " + got + ", due is " + want);
        }
    }

    static void same(String what, String got, String want) {
        made++;
        if (!got.equals(want)) {
            tell(what + ":\n  got  " + got + "\n  want " + want);
        }
    }

    static void holds(String what, boolean stands) {
        made++;
        if (!stands) {
            tell(what + " does not hold");
        }
    }

    private static void tell(String what) {
        wrong++;
        if (wrong <= 50) {
            System.out.println("WRONG " + what);
        }
    }

    /** The call answers the refusal, which alone is counted, and changes nothing else. */
    static void refused(PluginChains x, String what, long want, LongSupplier call) {
        String before = Dump.of(x);
        countedOnly(x, what, want, call);
        same(what + ", refused: what it left", Dump.of(x), before);
    }

    /** The call answers the refusal, which alone is counted; it may have changed something. */
    static void countedOnly(PluginChains x, String what, long want, LongSupplier call) {
        int sort = (int) (want <= -11 ? -want - 10 : -want);
        int[] counts = refusals(x);
        due(what, call.getAsLong(), want);
        counts[sort]++;
        int[] after = refusals(x);
        for (int i = 1; i <= 7; i++) {
            due(what + ": status(" + (10 + i) + ")", after[i], counts[i]);
        }
    }

    private static int[] refusals(PluginChains x) {
        int[] counts = new int[8];
        for (int i = 1; i <= 7; i++) {
            counts[i] = x.status(10 + i);
        }
        return counts;
    }

    static void end(String name) {
        System.out.println(name + ": " + (made - wrong) + " answers as due, " + wrong + " not");
        if (wrong != 0 || made == 0) {
            System.exit(1);
        }
    }
}
