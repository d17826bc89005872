import java.lang.reflect.Method;
import java.lang.reflect.Modifier;
import java.util.ArrayList;
import java.util.Arrays;
import java.util.Comparator;
import java.util.List;
import java.util.Random;
import java.util.TreeMap;
import java.util.Map;

/** Drawn runs of calls, answered by the program and by the reference alike. */
public final class RandomRunsTest {
    private static final int CALLS = 512;
    private static final int RUNS = 3000;
    private static final String NAME_LETTERS = "abz";

    private final Random random;
    private final PluginChains host = new PluginChains();
    private final ReferenceHost reference = new ReferenceHost();
    private final StringBuilder story = new StringBuilder();
    private final Map<String, Integer> seen;
    private int calls = 0;
    private boolean alike = true;
    private final int needChances;

    private static final List<Method> METHODS = methods();
    private static final Map<String, Method> TWINS = twins();

    private RandomRunsTest(long seed, Map<String, Integer> seen) {
        random = new Random(seed);
        needChances = 2 + random.nextInt(5);
        this.seen = seen;
    }

    public static void main(String[] args) throws Exception {
        int runs = args.length > 0 ? Integer.parseInt(args[0]) : RUNS;
        Map<String, Integer> seen = new TreeMap<>();
        for (int run = 0; run < runs; run++) {
            RandomRunsTest test = new RandomRunsTest(run, seen);
            test.run();
            Checks.holds("run " + run + ":" + (test.alike ? "" : test.story), test.alike);
        }
        for (Method method : METHODS) {
            Checks.holds(method.getName() + " answered well in some run", seen.containsKey(method.getName() + " well"));
        }
        if (args.length > 1) {
            seen.forEach((what, times) -> System.out.println(what + ": " + times));
        }
        Checks.end("RandomRunsTest");
    }

    private static List<Method> methods() {
        List<Method> methods = new ArrayList<>();
        for (Method method : PluginChains.class.getDeclaredMethods()) {
            if (Modifier.isPublic(method.getModifiers())) {
                methods.add(method);
            }
        }
        methods.sort(Comparator.comparing(Method::getName));
        return methods;
    }

    private static Map<String, Method> twins() {
        Map<String, Method> twins = new TreeMap<>();
        for (Method method : METHODS) {
            try {
                twins.put(method.getName(), ReferenceHost.class.getDeclaredMethod(method.getName(), method.getParameterTypes()));
            } catch (NoSuchMethodException e) {
                throw new IllegalStateException(e);
            }
        }
        return twins;
    }

    private void run() throws Exception {
        boolean wild = random.nextInt(10) == 0;
        int plugsAhead = 4 + random.nextInt(14);
        for (int i = 0; i < plugsAhead && !wild; i++) {
            makePlug();
        }
        int hooksAhead = random.nextInt(25);
        for (int i = 0; i < hooksAhead && !wild; i++) {
            makeHook();
        }
        for (int i = random.nextInt(14); i > 0 && !wild; i--) {
            call("start", plug());
        }
        while (alike && calls < CALLS) {
            step(wild);
        }
    }

    private void step(boolean wild) throws Exception {
        int chosen = random.nextInt(24);
        if (wild || chosen < 4) {
            anyCall();
        } else if (chosen == 4) {
            makePlug();
        } else if (chosen == 5) {
            makeHook();
        } else if (chosen == 6 && random.nextInt(4) == 0) {
            readText();
        } else if (chosen < 12) {
            call("start", plug());
        } else if (chosen < 14) {
            call("stop", running());
        } else if (chosen < 17) {
            call("mend", plug());
        } else if (chosen == 17) {
            rare();
        } else if (chosen < 20) {
            call("fire", point(), value());
            call("given");
        } else {
            look();
        }
    }

    private void rare() throws Exception {
        switch (random.nextInt(6)) {
            case 0 -> call("remove", plug());
            case 1 -> call("image");
            case 2 -> call("restore");
            case 3 -> call("seed", random.nextInt());
            case 4 -> table();
            default -> call("days", 1 + random.nextInt(40));
        }
    }

    private void look() throws Exception {
        int p = random.nextInt(3) == 0 ? plug() : running();
        switch (random.nextInt(9)) {
            case 0 -> {
                for (int q = 0; q < host.status(0); q++) {
                    call("wave", p, q);
                }
                if (random.nextBoolean()) {
                    call("stop", p);
                    bindings();
                }
            }
            case 1 -> {
                int q = plug();
                int count = host.would(q, -1);
                reference.would(q, -1);
                for (int i = -1; i <= count; i++) {
                    call("would", q, i);
                }
            }
            case 2 -> {
                bindings();
            }
            case 3 -> {
                for (int what = 0; what < 18; what++) {
                    call("status", what);
                }
            }
            case 4 -> {
                for (int i = 0; i < 4; i++) {
                    call("cause", i, random.nextInt(3));
                    call("log", random.nextInt(random.nextBoolean() ? 41 : 8));
                    call("trace", random.nextInt(random.nextBoolean() ? 31 : 5));
                    call("running", random.nextInt(6));
                    call("age", random.nextInt(12));
                    call("tally", random.nextInt(12));
                }
            }
            case 5 -> {
                int point = point();
                for (int i = 0; i < 8 && (i == 0 || host.chain(point, i - 1) != PluginChains.NONE); i++) {
                    call("chain", point, i);
                }
            }
            case 6 -> call("matter", point(), value());
            case 7 -> {
                int from = value();
                call("source", point(), value(), from, from + random.nextInt(202) - 1);
            }
            default -> {
                int point = point();
                int x = value();
                call("pure", point, x, 0);
                call("pure", point, x, 1);
            }
        }
    }

    private int plug() {
        return random.nextInt(Math.max(1, host.status(0)));
    }

    private int point() {
        return random.nextInt(3) == 0 ? random.nextInt(4) : 1;
    }

    private void bindings() throws Exception {
        int p = running();
        for (int service = 0; service < 8 && p < host.status(0); service++) {
            if ((host.plugOf(p, 3) >> service & 1) != 0) {
                call("provider", p, service);
            }
        }
    }

    private int running() {
        int p = host.running(random.nextInt(Math.max(1, host.status(1))));
        return p == PluginChains.NONE ? plug() : p;
    }

    private int value() {
        switch (random.nextInt(6)) {
            case 0:
                return random.nextInt();
            case 1:
                return random.nextInt(400) - 200;
            default:
                return random.nextInt(40) - 20;
        }
    }

    private int services(int chances) {
        int bits = 0;
        for (int i = 0; i < chances; i++) {
            bits |= random.nextBoolean() ? 1 << random.nextInt(8) : 0;
        }
        return bits;
    }

    private String name() {
        StringBuilder name = new StringBuilder();
        int length = 1 + random.nextInt(random.nextInt(8) == 0 ? 5 : 3);
        for (int i = 0; i < length; i++) {
            name.append(NAME_LETTERS.charAt(random.nextInt(NAME_LETTERS.length())));
        }
        return name.toString();
    }

    private void makePlug() throws Exception {
        int faults = random.nextInt(4) == 0 ? random.nextInt(4) : 0;
        int offers = services(random.nextInt(10));
        int needs = services(random.nextInt(needChances));
        call("plug", random.nextInt(5), random.nextInt(10), needs, offers, faults, Make.name(name()));
    }

    private void makeHook() throws Exception {
        int function = random.nextInt(9);
        int k = random.nextInt(3) == 0 ? random.nextInt(199) - 99 : random.nextInt(21) - 10;
        int point = point();
        call("hook", plug(), point, random.nextInt(7) - 3, function, k);
    }

    private void table() throws Exception {
        int n = random.nextInt(4);
        int point = point();
        call("row", 3, random.nextInt(4), 2 * n);
        for (int i = 0; i < n; i++) {
            int x = random.nextInt(100) - 50;
            call("set", 3, 2 * i, (long) x);
            long given = host.pure(point, x, 1) - 10000000000L;
            reference.pure(point, x, 1);
            call("set", 3, 2 * i + 1, random.nextInt(5) == 0 ? given + 1 : given);
        }
        call("judge", 3, point, n);
    }

    private String item() {
        StringBuilder item = new StringBuilder("plug ").append(name()).append(' ');
        item.append(random.nextInt(5)).append(' ').append(random.nextInt(10));
        int marks = random.nextInt(5);
        for (int i = 0; i < marks; i++) {
            item.append(new String[] {"-", "+", "!"}[random.nextInt(3)]);
            if (item.charAt(item.length() - 1) != '!') {
                item.append(random.nextInt(8));
            }
        }
        if (random.nextInt(8) == 0) {
            item.append("!!!!!!!!!!".substring(random.nextInt(3)));
        }
        return item.toString();
    }

    private void readText() throws Exception {
        StringBuilder text = new StringBuilder(item());
        int items = random.nextInt(4) == 0 ? random.nextInt(13) : random.nextInt(4);
        for (int i = 0; i < items; i++) {
            text.append(';').append(item());
        }
        for (int i = random.nextInt(3) - 1; i > 0; i--) {
            int at = random.nextInt(text.length());
            char sign = "plug abz;+-!0123456789xyP#".charAt(random.nextInt(26));
            switch (random.nextInt(4)) {
                case 0 -> text.setCharAt(at, sign);
                case 1 -> text.insert(at, sign);
                case 2 -> text.setLength(at);
                default -> text.deleteCharAt(at);
            }
        }
        int length = Math.min(text.length(), 160);
        int sort = random.nextInt(4);
        call("row", 2, sort, length);
        for (int i = 0; i < length; i++) {
            long far = random.nextInt(300) == 0 ? 1L << 8 * (1 + random.nextInt(5)) : 0;
            call("set", 2, i, text.charAt(i) + far);
        }
        call("read", 2);
        call("fault");
    }

    /** Any call, with any arguments, most of them near what there is. */
    private void anyCall() throws Exception {
        Method method = METHODS.get(random.nextInt(METHODS.size()));
        Class<?>[] types = method.getParameterTypes();
        Object[] given = new Object[types.length];
        for (int i = 0; i < types.length; i++) {
            int drawn = argument();
            if (types[i] == long.class) {
                given[i] = (long) drawn << random.nextInt(40);
            } else {
                given[i] = drawn;
            }
        }
        call(method.getName(), given);
    }

    private int argument() {
        switch (random.nextInt(12)) {
            case 0:
                return random.nextInt();
            case 1:
                return random.nextBoolean() ? Integer.MAX_VALUE : Integer.MIN_VALUE;
            case 2:
                return -1;
            case 3:
                return random.nextInt(300) - 100;
            case 4:
                return random.nextInt(30);
            default:
                return random.nextInt(9);
        }
    }

    private void call(String name, Object... given) throws Exception {
        if (!alike || calls >= CALLS) {
            return;
        }
        calls++;
        Method method = TWINS.get(name);
        long due = ((Number) method.invoke(reference, given)).longValue();
        Method own = METHODS.stream().filter(m -> m.getName().equals(name)).findFirst().orElseThrow();
        long got = ((Number) own.invoke(host, given)).longValue();
        seen.merge(name + (got >= 0 ? " well" : got < -16 ? " below" : " " + got), 1, Integer::sum);
        story.append("\n  ").append(name).append(Arrays.toString(given)).append(" answered ").append(got);
        if (got != due) {
            story.append(", due is ").append(due);
            alike = false;
        }
    }
}
