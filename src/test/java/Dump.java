/** All that can be seen of a host by calls that refuse nothing. */
final class Dump {
    private Dump() {
    }

    static String of(PluginChains x) {
        StringBuilder text = new StringBuilder();
        shelves(x, text);
        plugs(x, text);
        hooks(x, text);
        latest(x, text);
        return text.toString();
    }

    /** What an image has, as far as it can be seen. */
    static String ofImage(PluginChains x) {
        StringBuilder text = new StringBuilder();
        for (int what = 0; what <= 6; what++) {
            text.append(" status ").append(x.status(what));
        }
        plugs(x, text);
        hooks(x, text);
        return text.toString();
    }

    private static void shelves(PluginChains x, StringBuilder text) {
        for (int s = 0; s < 8; s++) {
            text.append(" shelf ").append(x.holds(s)).append(':');
            for (int i = 0; i < 160; i++) {
                long element = x.element(s, i);
                if (element != 0) {
                    text.append(i).append('=').append(element).append(',');
                }
            }
        }
    }

    private static void plugs(PluginChains x, StringBuilder text) {
        for (int p = 0; p < x.status(0); p++) {
            text.append("\n plug ").append(p).append(':');
            for (int what = 0; what < 8; what++) {
                text.append(x.plugOf(p, what)).append(',');
            }
            text.append(x.age(p)).append(',').append(x.tally(p));
            for (int service = 0; service < 8; service++) {
                text.append(',').append(x.provider(p, service));
            }
        }
        for (int i = 0; i < 12; i++) {
            text.append(" running ").append(x.running(i));
        }
    }

    private static void hooks(PluginChains x, StringBuilder text) {
        for (int h = 0; h < x.status(4); h++) {
            text.append("\n hook ").append(h).append(':');
            for (int what = 0; what < 5; what++) {
                text.append(x.hookOf(h, what)).append(',');
            }
        }
        for (int point = 0; point < 4; point++) {
            for (int i = 0; i < 24; i++) {
                text.append(x.chain(point, i)).append(' ');
            }
        }
    }

    private static void latest(PluginChains x, StringBuilder text) {
        text.append('\n');
        for (int what = 0; what <= 9; what++) {
            text.append(" status ").append(x.status(what));
        }
        text.append(" given ").append(x.given()).append(" fault ").append(x.fault());
        for (int i = 0; i < 30; i++) {
            text.append(" t").append(x.trace(i));
        }
        for (int i = 0; i < 40; i++) {
            text.append(" l").append(x.log(i));
        }
        for (int i = 0; i < x.status(7); i++) {
            for (int what = 0; what < 3; what++) {
                text.append(" c").append(x.cause(i, what));
            }
        }
    }
}
