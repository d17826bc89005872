import java.io.IOException;
import java.lang.management.ManagementFactory;
import java.lang.reflect.Constructor;
import java.lang.reflect.Field;
import java.lang.reflect.Method;
import java.lang.reflect.Modifier;
import java.nio.file.Files;
import java.nio.file.Path;
import java.util.Set;
import java.util.TreeSet;
import java.util.regex.Matcher;
import java.util.regex.Pattern;

/** The public face, the language's rules as far as a test can see them, and what calls make. */
public final class FaceTest {
    private static final String FACE = """
        int row(int,int,int)
        int set(int,int,long)
        int copy(int,int,int,int,int)
        long element(int,int)
        int show(int,int)
        int holds(int)
        int says(int,int)
        int plug(int,int,int,int,int,int)
        int read(int)
        int fault()
        int plugOf(int,int)
        int age(int)
        int tally(int)
        int provider(int,int)
        int start(int)
        int cause(int,int)
        int stop(int)
        int wave(int,int)
        int mend(int)
        int remove(int)
        int would(int,int)
        int running(int)
        int offered(int)
        int hook(int,int,int,int,int)
        int hookOf(int,int)
        int chain(int,int)
        int fire(int,int)
        int given()
        long pure(int,int,int)
        int matter(int,int)
        long source(int,int,int,int)
        int judge(int,int,int)
        int trace(int)
        int log(int)
        int days(int)
        int seed(int)
        int image()
        int restore()
        int status(int)
        """;

    public static void main(String[] args) throws IOException {
        methods();
        members();
        innerClasses();
        language(Files.readString(Path.of("src/main/java/PluginChains.java")));
        callsMakeNothing();
        Checks.end("FaceTest");
    }

    private static void methods() {
        Set<String> due = new TreeSet<>(FACE.lines().toList());
        Set<String> got = new TreeSet<>();
        for (Method method : PluginChains.class.getDeclaredMethods()) {
            if (!Modifier.isPrivate(method.getModifiers())) {
                got.add(told(method));
                int other = Modifier.PUBLIC ^ method.getModifiers();
                Checks.due("other modifiers of " + method.getName(), other, 0);
            }
        }
        Checks.same("the methods", got.toString(), due.toString());
    }

    private static String told(Method method) {
        StringBuilder text = new StringBuilder();
        text.append(method.getReturnType()).append(' ').append(method.getName()).append('(');
        for (Class<?> type : method.getParameterTypes()) {
            text.append(text.charAt(text.length() - 1) == '(' ? "" : ",").append(type);
        }
        return text.append(')').toString();
    }

    private static void members() {
        Class<?> face = PluginChains.class;
        Checks.holds("the class is public and final", face.getModifiers() == (Modifier.PUBLIC | Modifier.FINAL));
        Constructor<?>[] constructors = face.getDeclaredConstructors();
        Checks.due("constructors", constructors.length, 1);
        Checks.holds("the constructor is public", Modifier.isPublic(constructors[0].getModifiers()));
        Checks.due("its parameters", constructors[0].getParameterCount(), 0);
        for (Field field : face.getDeclaredFields()) {
            int modifiers = field.getModifiers();
            if (field.getName().equals("NONE")) {
                Checks.holds("NONE is public", Modifier.isPublic(modifiers));
            } else {
                Checks.holds(field.getName() + " is private", Modifier.isPrivate(modifiers));
            }
            Checks.holds(field.getName() + " is final if it is static",
                !Modifier.isStatic(modifiers) || Modifier.isFinal(modifiers));
        }
    }

    private static void innerClasses() {
        Set<String> names = new TreeSet<>();
        for (Method method : PluginChains.class.getDeclaredMethods()) {
            if (Modifier.isPublic(method.getModifiers())) {
                names.add(method.getName());
            }
        }
        Class<?>[] classes = PluginChains.class.getDeclaredClasses();
        Checks.holds("at most twelve classes", classes.length < 12);
        for (Class<?> inner : classes) {
            Checks.holds(inner + " is static", Modifier.isStatic(inner.getModifiers()));
            Checks.holds(inner + " is not public", !Modifier.isPublic(inner.getModifiers()));
            Checks.holds(inner + " has at most twenty fields", inner.getDeclaredFields().length <= 20);
            for (Method method : inner.getDeclaredMethods()) {
                Checks.holds(inner + "." + method.getName() + " has a name of its own", !names.contains(method.getName()));
                Checks.holds(method.getName() + " has few parameters", method.getParameterCount() <= 7);
            }
        }
    }

    private static void language(String source) {
        String code = source.replaceAll("(?s)/\\*.*?\\*/", "").replaceAll("//.*", "");
        String[] ruledOut = {"throw", "throws", "try", "catch", "finally", "synchronized", "assert", "volatile",
            "native", "transient", "var", "String", "Object", "Class", "System\\.(?!arraycopy)\\w+", "->", "::",
            "package", "equals", "hashCode", "toString", "@\\w+", "Random", "Thread", "\\w+Exact"};
        for (String word : ruledOut) {
            String pattern = Character.isLetter(word.charAt(0)) ? "\\b" + word + "\\b" : word;
            Matcher matcher = Pattern.compile(pattern).matcher(code);
            Checks.holds("the source does without " + word, !matcher.find());
        }
        Matcher imports = Pattern.compile("import ([\\w.*]+);").matcher(code);
        while (imports.find()) {
            Checks.same("import", imports.group(1), "java.util.Arrays");
        }
        for (int i = 0; i < source.length(); i++) {
            if (source.charAt(i) > 126) {
                Checks.holds("the source's signs are plain at " + i, false);
            }
        }
    }

    private static void callsMakeNothing() {
        com.sun.management.ThreadMXBean threads =
            (com.sun.management.ThreadMXBean) ManagementFactory.getThreadMXBean();
        long thread = Thread.currentThread().getId();
        PluginChains x = busyHost();
        long before = threads.getThreadAllocatedBytes(thread);
        for (int i = 0; i < 512; i++) {
            dearCalls(x, i);
        }
        long made = threads.getThreadAllocatedBytes(thread) - before;
        Checks.holds("calls make nothing, but " + made + " bytes were made", made < 100000);
    }

    private static PluginChains busyHost() {
        PluginChains x = new PluginChains();
        for (int p = 0; p < 12; p++) {
            x.plug(p % 5, p % 10, p == 0 ? 0 : 1 << (p - 1) % 8, 1 << p % 8, p % 3, 1 + p);
        }
        for (int h = 0; h < 24; h++) {
            x.hook(h % 12, h % 2, h % 9, h % 9, h);
        }
        Make.text(x, 1, "plug x 0 0+1-2!;plug y 0 0;plug z 0 0+");
        x.row(0, 3, 160);
        x.image();
        return x;
    }

    private static void dearCalls(PluginChains x, int i) {
        x.restore();
        x.start(i % 12);
        x.would(i % 11, -1);
        x.wave(0, i % 12);
        x.days(40);
        x.fire(i % 2, i);
        x.matter(i % 2, i);
        x.source(i % 2, i, -100, 99);
        x.judge(0, i % 2, 80);
        x.row(2, i % 4, 160);
        x.read(1);
        x.image();
        x.stop(i % 12);
    }
}
