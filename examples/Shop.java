/** A shop that needs a till, which needs a store: a use of PluginChains. */
public class Shop {
    private static final int NONE = PluginChains.NONE;

    public static void main(String[] args) {
        PluginChains host = new PluginChains();
        plugIns(host);
        starts(host);
        hooks(host);
        stops(host);
        refusals(host);
    }

    private static void plugIns(PluginChains host) {
        // PLAIN (0), RANK 3, NEEDS nothing, OFFERS service 0 (bit 0), no FAULTS, NAME "a" (1)
        say("plug: the store's number", host.plug(0, 3, 0, 1, 0, 1));
        // b is EAGER, NEEDS 0 and OFFERS 1; c is STEADY, NEEDS 1 and has a FAULT
        write(host, 0, "plug b 1 4-0+1;plug c 2 2-1!");
        say("read: plug-ins in the text", host.read(0));
        say("plugOf: the till's STRENGTH", host.plugOf(1, 6));
        say("show: the till comes into shelf 1", host.show(1, 1));
        say("says: how many SERVICES it OFFERS", host.says(1, 1));
    }

    private static void starts(PluginChains host) {
        say("start: the shop has a FAULT", host.start(2));
        say("cause: what failed", host.cause(0, 0));
        say("cause: why", host.cause(0, 1));
        say("mend: FAULTS left", host.mend(2));
        say("would: how many would start", host.would(2, NONE));
        say("start: how many started", host.start(2));
        say("running: the oldest", host.running(0));
        say("provider: of service 1 for the shop", host.provider(2, 1));
    }

    private static void hooks(PluginChains host) {
        // on point 0: first REST of x + 10 (PLUS), behind it REST of x, times 2 (TIMES)
        say("hook: the till's", host.hook(1, 0, 5, 0, 10));
        say("hook: the shop's", host.hook(2, 0, 0, 1, 2));
        say("fire: it gave a value", host.fire(0, 7));
        say("given", host.given());
        say("trace: the second that ran", host.trace(1));
        say("pure: 10,000,000,000 and the value", host.pure(0, 1, 1));
        say("source: 10,000,000,000 and the x", host.source(0, 34, 0, 100));
        say("matter: bits of both hooks", host.matter(0, 7));
    }

    private static void stops(PluginChains host) {
        say("image: plug-ins in it", host.image());
        say("wave: the shop's, if the store stops", host.wave(0, 2));
        say("stop: how many stopped", host.stop(0));
        say("log: the latest", host.log(host.status(9) - 1));
        say("restore: plug-ins", host.restore());
        say("status: how many run again", host.status(1));
    }

    private static void refusals(PluginChains host) {
        say("start: no such plug-in", host.start(9));
        say("age: no such plug-in", host.age(9));
        say("stop: the shop alone", host.stop(2));
        say("stop: it does not run", host.stop(2));
        say("status: refusals -1", host.status(11));
        say("status: refusals -6", host.status(16));
    }

    /** Puts letters into a row of bytes in shelf s. */
    private static void write(PluginChains host, int s, String letters) {
        host.row(s, 0, letters.length());
        for (int i = 0; i < letters.length(); i++) {
            host.set(s, i, letters.charAt(i));
        }
    }

    private static void say(String what, long answer) {
        System.out.println(what + " = " + answer);
    }
}
