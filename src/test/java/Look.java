/** Compares what a host tells of itself with what is due. */
final class Look {
    static final long TOLD = 10000000000L;
    static final int LEAST = Integer.MIN_VALUE;
    static final int MOST = Integer.MAX_VALUE;

    private Look() {
    }

    static void stateIs(PluginChains x, int p, int due) {
        Checks.due("state of " + p, x.plugOf(p, 0), due);
    }

    static void plugIs(PluginChains x, int p, int... due) {
        for (int what = 0; what < due.length; what++) {
            Checks.due("plugOf(" + p + ", " + what + ")", x.plugOf(p, what), due[what]);
        }
    }

    static void elementsAre(PluginChains x, int s, long... due) {
        for (int i = 0; i < due.length; i++) {
            Checks.due("element " + i + " of shelf " + s, x.element(s, i), due[i]);
        }
    }

    static void causesAre(PluginChains x, int... due) {
        Checks.due("how many causes", x.status(7), due.length / 3);
        for (int i = 0; i < due.length; i++) {
            Checks.due("cause(" + i / 3 + ", " + i % 3 + ")", x.cause(i / 3, i % 3), due[i]);
        }
        Checks.due("cause behind the last", x.cause(due.length / 3, 0), -5);
    }

    static void logIs(PluginChains x, int... due) {
        for (int i = 0; i < due.length; i++) {
            Checks.due("log(" + i + ")", x.log(i), due[i]);
        }
        Checks.due("log behind the last", x.log(due.length), -1);
    }

    static void runningAre(PluginChains x, int... due) {
        for (int i = 0; i < due.length; i++) {
            Checks.due("running(" + i + ")", x.running(i), due[i]);
        }
        Checks.due("running behind the last", x.running(due.length), -1);
    }

    static void chainIs(PluginChains x, int point, int... due) {
        for (int i = 0; i < due.length; i++) {
            Checks.due("chain(" + point + ", " + i + ")", x.chain(point, i), due[i]);
        }
        Checks.due("chain behind the last", x.chain(point, due.length), -1);
    }

    /** The value comes to the outcome and gives that: first told by pure(), then fired. */
    static void fires(PluginChains x, int point, int value, int outcome, int given) {
        String what = "fire(" + point + ", " + value + ")";
        Checks.due(what + " as pure", x.pure(point, value, 0), outcome);
        Checks.due(what + " as pure's value", x.pure(point, value, 1), TOLD + given);
        Checks.due(what, x.fire(point, value), outcome);
        Checks.due(what + " given", x.given(), given);
    }
}
