import java.io.IOException;
import java.lang.reflect.Method;
import java.lang.reflect.Modifier;
import java.nio.charset.StandardCharsets;
import java.nio.file.Files;
import java.nio.file.Path;
import java.nio.file.StandardCopyOption;
import java.util.ArrayList;
import java.util.Comparator;
import java.util.List;
import java.util.Set;
import java.util.TreeSet;
import java.util.regex.Matcher;
import java.util.regex.Pattern;
import java.util.stream.Stream;

/** What README.md shows is so: its program, its commands, what they print, what it names. */
public final class ReadmeTest {
    private static final Path HERE = Path.of("").toAbsolutePath();
    private static final String ALL_TESTS = ".ci/run\n";

    public static void main(String[] args) throws IOException, InterruptedException {
        String page = Files.readString(HERE.resolve("README.md"));
        theProgramIsTheOneThatIsKept(page);
        theCommandsPrintWhatIsShown(page);
        everyCallIsNamed(page);
        everyTestIsNamed(page);
        Checks.end("ReadmeTest");
    }

    /** The blocks of a language on the page, in their order. */
    private static List<String> blocks(String page, String language) {
        List<String> blocks = new ArrayList<>();
        Matcher matcher = Pattern.compile("(?ms)^```" + language + "\\n(.*?)^```$").matcher(page);
        while (matcher.find()) {
            blocks.add(matcher.group(1));
        }
        return blocks;
    }

    private static void theProgramIsTheOneThatIsKept(String page) throws IOException {
        List<String> programs = blocks(page, "java");
        Checks.due("programs shown", programs.size(), 1);
        Checks.same("the program shown", programs.get(0), Files.readString(HERE.resolve("examples/Shop.java")));
    }

    private static void theCommandsPrintWhatIsShown(String page) throws IOException, InterruptedException {
        List<String> commands = blocks(page, "sh");
        List<String> printed = blocks(page, "text");
        Checks.due("commands shown", commands.size(), 3);
        Checks.due("prints shown", printed.size(), 1);
        Path copy = Files.createTempDirectory("readme");
        try {
            copyTree(HERE.resolve("src"), copy.resolve("src"));
            copyTree(HERE.resolve("examples"), copy.resolve("examples"));
            Checks.same("the program prints", outputOf(commands.get(0), copy), printed.get(0));
            // this test is one of those that it would run
            Checks.same("all tests are run by", commands.get(1), ALL_TESTS);
            Checks.holds(".ci/run can be run", Files.isExecutable(HERE.resolve(".ci/run")));
            String one = outputOf(commands.get(2), copy);
            Checks.holds("one test prints: " + one, one.matches("StartsTest: \\d+ answers as due, 0 not\n"));
        } finally {
            removeTree(copy);
        }
    }

    /** What the commands print when they are run as they stand; with the exit code if it isn't 0. */
    private static String outputOf(String commands, Path folder) throws IOException, InterruptedException {
        Process shell = new ProcessBuilder("sh", "-e", "-c", commands)
            .directory(folder.toFile()).redirectErrorStream(true).start();
        String output = new String(shell.getInputStream().readAllBytes(), StandardCharsets.UTF_8);
        int exit = shell.waitFor();
        return exit == 0 ? output : output + "exit code " + exit;
    }

    private static void copyTree(Path from, Path to) throws IOException {
        try (Stream<Path> paths = Files.walk(from)) {
            for (Path path : paths.toList()) {
                Files.copy(path, to.resolve(from.relativize(path)), StandardCopyOption.REPLACE_EXISTING);
            }
        }
    }

    private static void removeTree(Path folder) throws IOException {
        try (Stream<Path> paths = Files.walk(folder)) {
            for (Path path : paths.sorted(Comparator.reverseOrder()).toList()) {
                Files.delete(path);
            }
        }
    }

    private static void everyCallIsNamed(String page) {
        String table = page.substring(page.indexOf("### The calls"), page.indexOf("### Refusals"));
        Set<String> named = new TreeSet<>();
        Matcher matcher = Pattern.compile("`(\\w+)`").matcher(table);
        while (matcher.find()) {
            Checks.holds(matcher.group(1) + " is named once", named.add(matcher.group(1)));
        }
        Set<String> calls = new TreeSet<>();
        for (Method method : PluginChains.class.getDeclaredMethods()) {
            if (Modifier.isPublic(method.getModifiers())) {
                calls.add(method.getName());
            }
        }
        Checks.same("the calls named", named.toString(), calls.toString());
    }

    private static void everyTestIsNamed(String page) throws IOException {
        String tests = page.substring(page.indexOf("## Tests"));
        try (Stream<Path> files = Files.list(HERE.resolve("src/test/java"))) {
            for (Path file : files.toList()) {
                String name = file.getFileName().toString().replace(".java", "");
                Checks.holds("README.md names " + name, Pattern.compile("\\b" + name + "\\b").matcher(tests).find());
            }
        }
    }
}
