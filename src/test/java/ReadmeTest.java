import java.io.ByteArrayOutputStream;
import java.io.IOException;
import java.io.PrintStream;
import java.lang.reflect.Method;
import java.lang.reflect.Modifier;
import java.net.URL;
import java.net.URLClassLoader;
import java.nio.charset.StandardCharsets;
import java.nio.file.Files;
import java.nio.file.Path;
import java.util.ArrayList;
import java.util.List;
import java.util.Set;
import java.util.TreeSet;
import java.util.regex.Matcher;
import java.util.regex.Pattern;
import java.util.stream.Collectors;
import java.util.stream.Stream;
import javax.tools.ToolProvider;

/** README.md: its program prints what it shows, each call answers as it shows, and it lists the tests that there are. */
public final class ReadmeTest {
    private static final Pattern BLOCK = Pattern.compile("(?ms)^```(\\w*)\n(.*?)^```$");
    private static final Pattern CALL = Pattern.compile("x\\.(\\w+\\(.*\\)); +// (-?\\d+)(?:\\D.*)?");
    private static final Pattern LISTED = Pattern.compile("(?m)^\\| `(\\w+)` \\|");

    private static final Set<String> CALLED = new TreeSet<>();

    public static void main(String[] args) throws IOException, ReflectiveOperationException {
        String page = Files.readString(Path.of("README.md"));
        String program = "";
        String printed = "";
        Matcher block = BLOCK.matcher(page);
        while (block.find()) {
            boolean whole = block.group(2).contains("class Example");
            if (block.group(1).equals("java") && whole) {
                program = block.group(2);
            } else if (block.group(1).equals("java")) {
                calls(block.group(2));
            } else if (block.group(1).equals("text")) {
                printed = block.group(2);
            }
        }
        Due.same("what the program prints", output(program), printed);
        Due.same("the calls that are shown", CALLED.toString(), publicMethods().toString());
        Due.same("the tests that are listed", listed(page).toString(), tests().toString());
        Due.holds(page.contains(".ci/run") && Files.isExecutable(Path.of(".ci/run")), ".ci/run is not there");
        Due.end();
    }

    /** Each line is a new object or a call with its answer. */
    private static void calls(String lines) {
        Run run = null;
        for (String line : lines.split("\n")) {
            Matcher call = CALL.matcher(line);
            if (line.equals("PairSorts x = new PairSorts();")) {
                run = new Run();
            } else if (call.matches() && run != null) {
                CALLED.add(call.group(1).replaceAll("\\(.*", ""));
                run.due(plain(call.group(1)), Long.parseLong(call.group(2)));
            } else {
                Due.holds(false, "a line that is no call with its answer: " + line);
            }
        }
    }

    /** The arguments as Run takes them. */
    private static String plain(String call) {
        Matcher sign = Pattern.compile("'(.)'").matcher(call.replace("PairSorts.", ""));
        return sign.replaceAll(found -> Integer.toString(found.group(1).charAt(0)));
    }

    private static String output(String program) throws IOException, ReflectiveOperationException {
        Path dir = Files.createTempDirectory("readme");
        Path source = dir.resolve("Example.java");
        Files.writeString(source, program);
        int failed = ToolProvider.getSystemJavaCompiler().run(null, null, null, "--release", "17", "-d", dir.toString(),
                "src/main/java/PairSorts.java", source.toString());
        Due.due("javac of the program", failed, 0);
        PrintStream out = System.out;
        ByteArrayOutputStream taken = new ByteArrayOutputStream();
        try (URLClassLoader loader = new URLClassLoader(new URL[] {dir.toUri().toURL()}, null)) {
            Method main = loader.loadClass("Example").getMethod("main", String[].class);
            System.setOut(new PrintStream(taken, true, StandardCharsets.UTF_8));
            main.invoke(null, (Object) new String[0]);
        } finally {
            System.setOut(out);
            delete(dir);
        }
        return taken.toString(StandardCharsets.UTF_8).replace(System.lineSeparator(), "\n");
    }

    private static void delete(Path dir) throws IOException {
        try (Stream<Path> files = Files.list(dir)) {
            for (Path file : files.collect(Collectors.toList())) {
                Files.delete(file);
            }
        }
        Files.delete(dir);
    }

    private static Set<String> publicMethods() {
        Set<String> names = new TreeSet<>();
        for (Method m : PairSorts.class.getDeclaredMethods()) {
            if (Modifier.isPublic(m.getModifiers())) {
                names.add(m.getName());
            }
        }
        return names;
    }

    private static Set<String> listed(String page) {
        List<String> names = new ArrayList<>();
        Matcher line = LISTED.matcher(page);
        while (line.find()) {
            names.add(line.group(1));
        }
        return new TreeSet<>(names);
    }

    private static Set<String> tests() throws IOException {
        try (Stream<Path> files = Files.list(Path.of("src/test/java"))) {
            return files.map(file -> file.getFileName().toString()).filter(name -> name.endsWith(".java"))
                    .map(name -> name.replace(".java", "")).collect(Collectors.toCollection(TreeSet::new));
        }
    }
}
