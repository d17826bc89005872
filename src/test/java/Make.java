/** Short ways to put things into a host. */
final class Make {
    private Make() {
    }

    static int name(String letters) {
        int name = 0;
        for (int i = 0; i < letters.length(); i++) {
            name = name * 27 + letters.charAt(i) - 'a' + 1;
        }
        return name;
    }

    /** A set of services, told by its digits. */
    static int services(String digits) {
        int bits = 0;
        for (int i = 0; i < digits.length(); i++) {
            bits |= 1 << digits.charAt(i) - '0';
        }
        return bits;
    }

    static int plain(PluginChains x, String name, String needs, String offers) {
        return x.plug(0, 1, services(needs), services(offers), 0, name(name));
    }

    static int plug(PluginChains x, int kind, int rank, String needs, String offers, int faults, String name) {
        return x.plug(kind, rank, services(needs), services(offers), faults, name(name));
    }

    static void text(PluginChains x, int s, String letters) {
        x.row(s, 0, letters.length());
        for (int i = 0; i < letters.length(); i++) {
            x.set(s, i, letters.charAt(i));
        }
    }

    static int read(PluginChains x, String letters) {
        text(x, 7, letters);
        return x.read(7);
    }

    static void ints(PluginChains x, int s, int... elements) {
        x.row(s, 2, elements.length);
        for (int i = 0; i < elements.length; i++) {
            x.set(s, i, elements[i]);
        }
    }

    /** A host with one plug-in running, number 0. */
    static PluginChains withOneRunning() {
        PluginChains x = new PluginChains();
        plain(x, "a", "", "");
        x.start(0);
        return x;
    }
}
