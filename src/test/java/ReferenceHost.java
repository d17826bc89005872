import java.util.ArrayDeque;
import java.util.ArrayList;
import java.util.Comparator;
import java.util.Deque;
import java.util.HashMap;
import java.util.HashSet;
import java.util.List;
import java.util.Map;
import java.util.Set;
import java.util.TreeSet;
import java.util.function.IntUnaryOperator;
import java.util.regex.Matcher;
import java.util.regex.Pattern;

/**
 * The document once more, as literally as can be: bindings are kept, what throws is thrown, what
 * would be is tried on a copy. RandomRunsTest compares the program with it.
 */
final class ReferenceHost {
    private static final long TOLD = 10_000_000_000L;

    private static final class Plug {
        int number;
        String name;
        int kind;
        int rank;
        Set<Integer> needs = new TreeSet<>();
        Set<Integer> offers = new TreeSet<>();
        int faults;
        int tally;
        String state = "IDLE";
        int age = -1;
        Map<Integer, Integer> bound = new HashMap<>();

        Plug twin() {
            Plug twin = new Plug();
            twin.number = number;
            twin.name = name;
            twin.kind = kind;
            twin.rank = rank;
            twin.needs.addAll(needs);
            twin.offers.addAll(offers);
            twin.faults = faults;
            twin.tally = tally;
            twin.state = state;
            twin.age = age;
            twin.bound.putAll(bound);
            return twin;
        }

        boolean runs() {
            return state.equals("RUNNING");
        }

        int strength() {
            int eager = rank + offers.size();
            int steady = rank < 5 ? 5 : rank;
            return new int[] {rank, eager, steady, eager + eager, steady + 1}[kind];
        }
    }

    private record Hook(int number, int plug, int point, int priority, int function, int k) {
    }

    private record Cause(int plug, int why, int service) {
    }

    private static final class Failed extends Exception {
        private static final long serialVersionUID = 1;
        final transient List<Cause> causes = new ArrayList<>();

        Failed(int plug, int why, int service) {
            causes.add(new Cause(plug, why, service));
        }
    }

    private static final class Thrown extends RuntimeException {
        private static final long serialVersionUID = 1;
        final int value;

        Thrown(int value) {
            super(null, null, false, false);
            this.value = value;
        }
    }

    private static final class Ended extends RuntimeException {
        private static final long serialVersionUID = 1;

        Ended() {
            super(null, null, false, false);
        }
    }

    /** All that an image has. */
    private static final class World {
        List<Plug> plugs = new ArrayList<>();
        List<Hook> hooks = new ArrayList<>();
        int clock = 0;
        int seed = 1;
        List<Integer> log = new ArrayList<>();

        World twin() {
            World twin = new World();
            for (Plug plug : plugs) {
                twin.plugs.add(plug.twin());
            }
            twin.hooks.addAll(hooks);
            twin.clock = clock;
            twin.seed = seed;
            twin.log.addAll(log);
            return twin;
        }
    }

    private World world = new World();
    private World image = null;
    private final Object[] shelves = new Object[8];
    private final int[] sorts = new int[8];
    private List<Cause> causes = new ArrayList<>();
    private int latestFault = -1;
    private int latestGiven = 0;
    private List<Integer> latestTrace = new ArrayList<>();
    private final int[] refusals = new int[8];

    private int no(int number) {
        refusals[-number]++;
        return number;
    }

    private int noByTen(int number) {
        return no(number) - 10;
    }

    private boolean plugThere(int p) {
        return p >= 0 && p < world.plugs.size();
    }

    private Plug at(int p) {
        return world.plugs.get(p);
    }

    private static boolean within(int i, int least, int most) {
        return least <= i && i <= most;
    }

    // shelves: an Integer is a plug-in's number, a long[] a row

    private int noRow(int s) {
        if (!within(s, 0, 7)) {
            return -1;
        }
        return shelves[s] instanceof Integer ? -2 : shelves[s] == null ? -3 : 0;
    }

    int row(int s, int sort, int n) {
        if (!within(s, 0, 7)) {
            return no(-1);
        }
        if (n < 0) {
            return no(-4);
        }
        if (!within(sort, 0, 3)) {
            return no(-6);
        }
        if (n > 160) {
            return no(-7);
        }
        shelves[s] = new long[n];
        sorts[s] = sort;
        return 1;
    }

    int set(int s, int i, long v) {
        if (noRow(s) != 0) {
            return no(noRow(s));
        }
        long[] row = (long[]) shelves[s];
        if (!within(i, 0, row.length - 1)) {
            return no(-5);
        }
        int bits = 8 << sorts[s];
        row[i] = v << 64 - bits >> 64 - bits;
        return 1;
    }

    int copy(int p, int q, int i, int j, int n) {
        int a = noRow(p);
        int b = noRow(q);
        for (int why = -1; why >= -3; why--) {
            boolean two = why == -2 && a == 0 && b == 0 && sorts[p] != sorts[q];
            if (a == why || b == why || two) {
                return no(why);
            }
        }
        if (n < 0) {
            return no(-4);
        }
        long[] from = (long[]) shelves[p];
        long[] to = (long[]) shelves[q];
        if (i < 0 || j < 0 || (long) i + n > from.length || (long) j + n > to.length) {
            return no(-5);
        }
        long[] ahead = from.clone();
        for (int m = 0; m < n; m++) {
            to[j + m] = ahead[i + m];
        }
        return 1;
    }

    long element(int s, int i) {
        if (noRow(s) != 0) {
            return 0;
        }
        long[] row = (long[]) shelves[s];
        return within(i, 0, row.length - 1) ? row[i] : 0;
    }

    int show(int s, int p) {
        if (!within(s, 0, 7) || p != -1 && !plugThere(p)) {
            return no(-1);
        }
        shelves[s] = p == -1 ? null : (Integer) p;
        return p == -1 ? 0 : 1;
    }

    int holds(int s) {
        if (!within(s, 0, 7) || shelves[s] == null) {
            return -1;
        }
        return shelves[s] instanceof Integer p ? p : 100 + sorts[s];
    }

    int says(int s, int kind) {
        if (!within(s, 0, 7) || !within(kind, 0, 4)) {
            return no(-1);
        }
        if (shelves[s] instanceof long[]) {
            return no(-2);
        }
        if (shelves[s] == null) {
            return no(-3);
        }
        Plug plug = at((Integer) shelves[s]);
        List<List<Integer>> lines = List.of(List.of(0), List.of(0, 1), List.of(0, 2), List.of(0, 1, 3), List.of(0, 2, 4));
        if (!lines.get(plug.kind).contains(kind)) {
            return no(-2);
        }
        return kind == 0 ? plug.rank : kind == 1 || kind == 3 ? plug.offers.size() : plug.strength();
    }

    // plug-ins

    private static String letters(int name) {
        if (name < 1) {
            return null;
        }
        String digits = "";
        for (int left = name; left > 0; left /= 27) {
            if (left % 27 == 0) {
                return null;
            }
            digits = (char) ('a' + left % 27 - 1) + digits;
        }
        return digits.length() > 4 ? null : digits;
    }

    private static int number(String letters) {
        int number = 0;
        for (char c : letters.toCharArray()) {
            number = 27 * number + (c - 'a' + 1);
        }
        return number;
    }

    private static Set<Integer> services(int bits) {
        Set<Integer> set = new TreeSet<>();
        for (int service = 0; service < 8; service++) {
            if ((bits & 1 << service) != 0) {
                set.add(service);
            }
        }
        return set;
    }

    private static int bits(Set<Integer> services) {
        int bits = 0;
        for (int service : services) {
            bits += 1 << service;
        }
        return bits;
    }

    private boolean named(String name) {
        return world.plugs.stream().anyMatch(plug -> !plug.state.equals("GONE") && plug.name.equals(name));
    }

    int plug(int kind, int rank, int needs, int offers, int faults, int name) {
        if (!within(kind, 0, 4)) {
            return no(-1);
        }
        if (!within(rank, 0, 9) || !within(needs, 0, 255) || !within(offers, 0, 255) || !within(faults, 0, 9)
            || letters(name) == null || named(letters(name))) {
            return no(-6);
        }
        if (world.plugs.size() == 12) {
            return no(-7);
        }
        Plug plug = new Plug();
        plug.number = world.plugs.size();
        plug.kind = kind;
        plug.rank = rank;
        plug.needs = services(needs);
        plug.offers = services(offers);
        plug.faults = faults;
        plug.name = letters(name);
        world.plugs.add(plug);
        return plug.number;
    }

    private static final String ITEM = "plug [a-z]{1,4} [0-4] [0-9](?:[-+][0-7]|!)*";
    private static final Pattern TEXT = Pattern.compile(ITEM + "(?:;" + ITEM + ")*");

    private int faultOf(String text) {
        Set<String> names = new HashSet<>();
        int itemAt = 0;
        int items = 0;
        int marks = 0;
        for (int length = 1; length <= text.length(); length++) {
            String part = text.substring(0, length);
            Matcher matcher = TEXT.matcher(part);
            if (!matcher.matches() && !matcher.hitEnd()) {
                return length - 1;
            }
            if (part.endsWith(";")) {
                itemAt = length;
                marks = 0;
            }
            String item = part.substring(itemAt);
            if (item.equals("plug")) {
                items++;
                if (world.plugs.size() + items > 12) {
                    return itemAt;
                }
            }
            if (item.matches("plug [a-z]+ ")) {
                String name = item.substring(5, item.length() - 1);
                if (named(name) || !names.add(name)) {
                    return itemAt + 5;
                }
            }
            if (part.endsWith("!")) {
                marks++;
                if (marks == 10) {
                    return length - 1;
                }
            }
        }
        return TEXT.matcher(text).matches() ? -1 : text.length();
    }

    int read(int s) {
        if (noRow(s) != 0) {
            return no(noRow(s));
        }
        StringBuilder text = new StringBuilder();
        for (long element : (long[]) shelves[s]) {
            int sign = (int) element;
            text.append(sign > 0 && sign < 128 ? (char) sign : '#');
        }
        latestFault = faultOf(text.toString());
        if (latestFault != -1) {
            return no(-6);
        }
        String[] items = text.toString().split(";");
        for (String item : items) {
            String[] words = item.split(" ");
            Set<Integer> needs = new TreeSet<>();
            Set<Integer> offers = new TreeSet<>();
            int faults = 0;
            for (int i = 1; i < words[3].length(); i++) {
                char sign = words[3].charAt(i);
                if (sign == '!') {
                    faults++;
                } else if (sign == '-') {
                    needs.add(words[3].charAt(i + 1) - '0');
                } else if (sign == '+') {
                    offers.add(words[3].charAt(i + 1) - '0');
                }
            }
            int rank = words[3].charAt(0) - '0';
            int made = plug(words[2].charAt(0) - '0', rank, bits(needs), bits(offers), faults, number(words[1]));
            if (made < 0) {
                throw new IllegalStateException(item);
            }
        }
        return items.length;
    }

    int fault() {
        return latestFault;
    }

    int plugOf(int p, int what) {
        if (!plugThere(p) || !within(what, 0, 7)) {
            return no(-5);
        }
        Plug plug = at(p);
        int state = List.of("IDLE", "RUNNING", "BROKEN", "GONE").indexOf(plug.state);
        int[] told = {state, plug.kind, plug.rank, bits(plug.needs), bits(plug.offers), plug.faults,
            plug.strength(), number(plug.name)};
        return told[what];
    }

    int age(int p) {
        if (!plugThere(p)) {
            return noByTen(-1);
        }
        return at(p).runs() ? at(p).age : -1;
    }

    int tally(int p) {
        return plugThere(p) ? at(p).tally : 0;
    }

    int provider(int p, int service) {
        if (!plugThere(p) || !within(service, 0, 7)) {
            return noByTen(-1);
        }
        return at(p).runs() ? at(p).bound.getOrDefault(service, -1) : -1;
    }

    // starts and stops

    private static void bind(World on, Plug plug, int service) {
        Plug best = null;
        for (Plug other : on.plugs) {
            if (other != plug && other.runs() && other.age < plug.age && other.offers.contains(service)) {
                if (best == null || other.strength() > best.strength()
                    || other.strength() == best.strength() && other.age < best.age) {
                    best = other;
                }
            }
        }
        plug.bound.put(service, best.number);
    }

    /** Starts a plug-in; those started for it come behind the others in the list, itself last. */
    private static void bring(World on, Plug plug, Deque<Plug> onTheWay, List<Plug> started) throws Failed {
        if (plug.state.equals("BROKEN") || plug.state.equals("GONE")) {
            throw new Failed(plug.number, 1, -1);
        }
        List<Plug> forIt = new ArrayList<>();
        onTheWay.push(plug);
        try {
            for (int service : plug.needs) {
                bringOffer(on, plug, service, onTheWay, forIt);
            }
            if (plug.faults > 0) {
                plug.faults--;
                plug.state = "BROKEN";
                on.log.add(300 + plug.number);
                throw new Failed(plug.number, 5, -1);
            }
        } catch (Failed failed) {
            for (int i = forIt.size() - 1; i >= 0; i--) {
                rest(on, forIt.get(i));
            }
            throw failed;
        } finally {
            onTheWay.pop();
        }
        plug.state = "RUNNING";
        plug.age = on.clock;
        on.clock++;
        on.log.add(100 + plug.number);
        for (int service : plug.needs) {
            bind(on, plug, service);
        }
        started.addAll(forIt);
        started.add(plug);
    }

    private static void rest(World on, Plug plug) {
        plug.state = "IDLE";
        plug.bound.clear();
        on.log.add(200 + plug.number);
    }

    private static void bringOffer(World on, Plug plug, int service, Deque<Plug> onTheWay, List<Plug> started)
        throws Failed {
        for (Plug other : on.plugs) {
            if (other != plug && other.runs() && other.offers.contains(service)) {
                return;
            }
        }
        List<Plug> idle = new ArrayList<>();
        for (Plug other : on.plugs) {
            if (other != plug && other.state.equals("IDLE") && other.offers.contains(service)) {
                idle.add(other);
            }
        }
        idle.sort(Comparator.comparing((Plug other) -> -other.strength()).thenComparing(other -> other.name));
        if (idle.isEmpty()) {
            throw new Failed(plug.number, 2, service);
        }
        if (onTheWay.contains(idle.get(0))) {
            throw new Failed(plug.number, 3, service);
        }
        try {
            bring(on, idle.get(0), onTheWay, started);
        } catch (Failed failed) {
            failed.causes.add(0, new Cause(plug.number, 4, service));
            throw failed;
        }
    }

    int start(int p) {
        if (!plugThere(p)) {
            return no(-1);
        }
        if (at(p).runs()) {
            return no(-6);
        }
        List<Plug> started = new ArrayList<>();
        try {
            bring(world, at(p), new ArrayDeque<>(), started);
        } catch (Failed failed) {
            causes = failed.causes;
            return no(-6);
        }
        return started.size();
    }

    int cause(int i, int what) {
        if (!within(i, 0, causes.size() - 1) || !within(what, 0, 2)) {
            return no(-5);
        }
        Cause cause = causes.get(i);
        return what == 0 ? cause.plug() : what == 1 ? cause.why() : cause.service();
    }

    private List<Set<Plug>> wavesOf(Plug first) {
        List<Set<Plug>> waves = new ArrayList<>();
        Set<Plug> in = new HashSet<>(Set.of(first));
        Set<Plug> next = Set.of(first);
        while (!next.isEmpty()) {
            waves.add(next);
            in.addAll(next);
            next = new HashSet<>();
            for (Plug plug : world.plugs) {
                if (plug.runs() && !in.contains(plug)) {
                    for (int service : plug.needs) {
                        if (world.plugs.stream().noneMatch(other -> other.runs() && other.age < plug.age
                            && !in.contains(other) && other.offers.contains(service))) {
                            next.add(plug);
                        }
                    }
                }
            }
        }
        return waves;
    }

    private int stopAll(Plug first) {
        List<Plug> all = new ArrayList<>();
        for (Set<Plug> wave : wavesOf(first)) {
            all.addAll(wave);
        }
        all.sort(Comparator.comparing(plug -> -plug.age));
        for (Plug plug : all) {
            rest(world, plug);
        }
        for (Plug plug : world.plugs) {
            if (plug.runs()) {
                for (int service : plug.needs) {
                    if (all.contains(at(plug.bound.get(service)))) {
                        bind(world, plug, service);
                    }
                }
            }
        }
        return all.size();
    }

    int stop(int p) {
        if (!plugThere(p)) {
            return no(-1);
        }
        if (!at(p).runs()) {
            return no(-6);
        }
        return stopAll(at(p));
    }

    int wave(int p, int q) {
        if (!plugThere(p) || !plugThere(q)) {
            return noByTen(-1);
        }
        if (!at(p).runs()) {
            return noByTen(-6);
        }
        List<Set<Plug>> waves = wavesOf(at(p));
        for (int i = 0; i < waves.size(); i++) {
            if (waves.get(i).contains(at(q))) {
                return i;
            }
        }
        return -1;
    }

    int mend(int p) {
        if (!plugThere(p)) {
            return no(-1);
        }
        if (!at(p).state.equals("BROKEN")) {
            return no(-6);
        }
        at(p).state = "IDLE";
        return at(p).faults;
    }

    int remove(int p) {
        if (!plugThere(p)) {
            return no(-1);
        }
        if (at(p).state.equals("GONE")) {
            return no(-6);
        }
        int stopped = at(p).runs() ? stopAll(at(p)) : 0;
        at(p).state = "GONE";
        return stopped;
    }

    int would(int p, int i) {
        if (!plugThere(p)) {
            return noByTen(-1);
        }
        if (at(p).runs()) {
            return noByTen(-6);
        }
        World twin = world.twin();
        List<Plug> started = new ArrayList<>();
        try {
            bring(twin, twin.plugs.get(p), new ArrayDeque<>(), started);
        } catch (Failed failed) {
            return i == -1 ? 0 : -1;
        }
        if (i == -1) {
            return started.size();
        }
        return within(i, 0, started.size() - 1) ? started.get(i).number : -1;
    }

    int running(int i) {
        List<Plug> running = new ArrayList<>(world.plugs.stream().filter(Plug::runs).toList());
        running.sort(Comparator.comparing(plug -> plug.age));
        return within(i, 0, running.size() - 1) ? running.get(i).number : -1;
    }

    int offered(int service) {
        if (!within(service, 0, 7)) {
            return no(-1);
        }
        int bits = 0;
        for (Plug plug : world.plugs) {
            if (plug.runs() && plug.offers.contains(service)) {
                bits += 1 << plug.number;
            }
        }
        return bits;
    }

    // hooks

    int hook(int p, int point, int priority, int function, int k) {
        if (!plugThere(p) || at(p).state.equals("GONE") || !within(point, 0, 3)) {
            return no(-1);
        }
        if (!within(priority, -9, 9) || !within(function, 0, 8) || !within(k, -99, 99)) {
            return no(-6);
        }
        if (world.hooks.size() == 24) {
            return no(-7);
        }
        world.hooks.add(new Hook(world.hooks.size(), p, point, priority, function, k));
        return world.hooks.size() - 1;
    }

    int hookOf(int h, int what) {
        if (!within(h, 0, world.hooks.size() - 1) || !within(what, 0, 4)) {
            return no(-5);
        }
        Hook hook = world.hooks.get(h);
        return new int[] {hook.plug(), hook.point(), hook.priority() + 10, hook.function(), hook.k() + 100}[what];
    }

    private List<Hook> chainOf(int point) {
        List<Hook> chain = new ArrayList<>();
        for (Hook hook : world.hooks) {
            if (hook.point() == point && at(hook.plug()).runs()) {
                chain.add(hook);
            }
        }
        chain.sort(Comparator.comparing((Hook hook) -> -hook.priority())
            .thenComparing(hook -> at(hook.plug()).age).thenComparing(Hook::number));
        return chain;
    }

    int chain(int point, int i) {
        if (!within(point, 0, 3)) {
            return noByTen(-1);
        }
        List<Hook> chain = chainOf(point);
        return within(i, 0, chain.size() - 1) ? chain.get(i).number() : -1;
    }

    private static final class Fired {
        int outcome = 0;
        int value = 0;
        final List<Integer> ran = new ArrayList<>();
        final Map<Integer, Integer> tallies = new HashMap<>();

        boolean alike(Fired other) {
            return outcome == other.outcome && value == other.value;
        }
    }

    private Fired send(List<Hook> chain, int x) {
        Fired fired = new Fired();
        IntUnaryOperator rest = y -> y;
        for (int i = chain.size() - 1; i >= 0; i--) {
            Hook hook = chain.get(i);
            IntUnaryOperator behind = rest;
            rest = y -> {
                if (fired.ran.size() == 200) {
                    throw new Ended();
                }
                fired.ran.add(hook.number());
                return give(hook, y, behind, fired);
            };
        }
        try {
            fired.value = rest.applyAsInt(x);
        } catch (Thrown thrown) {
            fired.outcome = 1;
            fired.value = thrown.value;
        } catch (Ended ended) {
            fired.outcome = 2;
        }
        return fired;
    }

    private static int lastDigit(int x) {
        int left = x % 10;
        return left < 0 ? left + 10 : left;
    }

    private static int give(Hook hook, int x, IntUnaryOperator rest, Fired fired) {
        int k = hook.k();
        switch (hook.function()) {
            case 0:
                return rest.applyAsInt(x + k);
            case 1:
                return rest.applyAsInt(x) * k;
            case 2:
                return rest.applyAsInt(rest.applyAsInt(x));
            case 3:
                return lastDigit(x) == lastDigit(k) ? x : rest.applyAsInt(x);
            case 4:
                return rest.applyAsInt(x ^ k) ^ k;
            case 5:
                int given = rest.applyAsInt(x);
                return given + fired.ran.size();
            case 6:
                fired.tallies.merge(hook.plug(), x, Integer::sum);
                return rest.applyAsInt(x);
            case 7:
                if (x < k) {
                    throw new Thrown(x);
                }
                return rest.applyAsInt(x);
            default:
                try {
                    return rest.applyAsInt(x);
                } catch (Thrown thrown) {
                    return thrown.value + k;
                }
        }
    }

    int fire(int point, int x) {
        if (!within(point, 0, 3)) {
            return no(-1);
        }
        Fired fired = send(chainOf(point), x);
        latestGiven = fired.value;
        latestTrace = fired.ran;
        if (fired.outcome == 0) {
            fired.tallies.forEach((p, more) -> at(p).tally += more);
        }
        return fired.outcome;
    }

    int given() {
        return latestGiven;
    }

    long pure(int point, int x, int what) {
        if (!within(point, 0, 3)) {
            return no(-1);
        }
        if (!within(what, 0, 1)) {
            return no(-5);
        }
        Fired fired = send(chainOf(point), x);
        return what == 0 ? fired.outcome : TOLD + fired.value;
    }

    int matter(int point, int x) {
        if (!within(point, 0, 3)) {
            return no(-1);
        }
        List<Hook> chain = chainOf(point);
        Fired whole = send(chain, x);
        int bits = 0;
        for (Hook hook : chain) {
            List<Hook> without = new ArrayList<>(chain);
            without.remove(hook);
            if (!send(without, x).alike(whole)) {
                bits |= 1 << hook.number();
            }
        }
        return bits;
    }

    long source(int point, int y, int from, int to) {
        if (!within(point, 0, 3)) {
            return no(-1);
        }
        if (from > to || (long) to - from >= 200) {
            return no(-6);
        }
        for (long x = from; x <= to; x++) {
            Fired fired = send(chainOf(point), (int) x);
            if (fired.outcome == 0 && fired.value == y) {
                return TOLD + x;
            }
        }
        return 0;
    }

    int judge(int s, int point, int n) {
        if (!within(s, 0, 7) || !within(point, 0, 3)) {
            return noByTen(-1);
        }
        if (noRow(s) != 0) {
            return noByTen(noRow(s));
        }
        if (n < 0) {
            return noByTen(-4);
        }
        long[] row = (long[]) shelves[s];
        if (2L * n > row.length) {
            return noByTen(-5);
        }
        if (n > 80) {
            return noByTen(-6);
        }
        for (int i = 0; i < n; i++) {
            Fired fired = send(chainOf(point), (int) row[2 * i]);
            if (fired.outcome != 0 || fired.value != (int) row[2 * i + 1]) {
                return i;
            }
        }
        return -1;
    }

    int trace(int i) {
        return within(i, 0, Math.min(30, latestTrace.size()) - 1) ? latestTrace.get(i) : -1;
    }

    int log(int i) {
        int lost = Math.max(0, world.log.size() - 40);
        return within(i, 0, 39) && lost + i < world.log.size() ? world.log.get(lost + i) : -1;
    }

    private int draw(int below) {
        world.seed = world.seed * 1103515245 + 12345;
        return (world.seed >>> 16) % below;
    }

    int days(int n) {
        if (world.plugs.isEmpty()) {
            return no(-5);
        }
        if (!within(n, 1, 40)) {
            return no(-6);
        }
        for (int day = 0; day < n; day++) {
            Plug plug = at(draw(world.plugs.size()));
            int deed = draw(3);
            if (deed == 0 && !plug.runs()) {
                try {
                    bring(world, plug, new ArrayDeque<>(), new ArrayList<>());
                } catch (Failed failed) {
                    continue;
                }
            } else if (deed == 1 && plug.runs()) {
                stopAll(plug);
            } else if (deed == 2 && plug.state.equals("BROKEN")) {
                plug.state = "IDLE";
            }
        }
        return status(1);
    }

    int seed(int v) {
        int before = world.seed;
        world.seed = v;
        return before;
    }

    int image() {
        image = world.twin();
        return world.plugs.size();
    }

    int restore() {
        if (image == null) {
            return no(-6);
        }
        List<Integer> log = world.log;
        world = image.twin();
        world.log = log;
        for (int s = 0; s < 8; s++) {
            if (shelves[s] instanceof Integer p && !plugThere(p)) {
                shelves[s] = null;
            }
        }
        return world.plugs.size();
    }

    private int countIn(String state) {
        return (int) world.plugs.stream().filter(plug -> plug.state.equals(state)).count();
    }

    int status(int what) {
        if (within(what, 11, 17)) {
            return refusals[what - 10];
        }
        if (!within(what, 0, 9)) {
            return -1;
        }
        int[] told = {world.plugs.size(), countIn("RUNNING"), countIn("BROKEN"), countIn("GONE"),
            world.hooks.size(), world.clock, world.seed, causes.size(), latestTrace.size(), world.log.size()};
        return told[what];
    }
}
