import java.io.IOException;
import java.lang.reflect.Method;
import java.lang.reflect.Modifier;
import java.net.URL;
import java.net.URLClassLoader;
import java.nio.file.Files;
import java.nio.file.Path;
import java.util.ArrayList;
import java.util.Comparator;
import java.util.List;
import java.util.regex.Matcher;
import java.util.regex.Pattern;
import java.util.stream.Stream;
import javax.tools.JavaCompiler;
import javax.tools.ToolProvider;

/**
 * The examples of README.md, with the answers that stand behind the calls. They are compiled from its own text, so
 * that an example that a reader could not use is found out, too.
 */
public final class ReadmeTest {
    private static final Path README = Path.of("README.md");
    private static final Pattern BLOCK = Pattern.compile("(?ms)^```java\n(.*?)^```$");
    private static final Pattern CALL = Pattern.compile("(?:(?:int|long) (\\w+) = )?(chain\\.\\w+\\([^()]*\\));\\s+// (-?\\d+|[A-Z_]+)(?:: .+)?");
    private static final String GENERATED = "ReadmeExamples";

    private static int wrong = 0;
    private static int calls = 0;

    public static void main(String[] args) throws Exception {
        List<String> examples = examples();
        check(!examples.isEmpty(), "README.md has no example");
        showEveryMethod(String.join("", examples));
        String program = program(examples);
        int due = calls;
        calls = 0;
        run(program);
        check(calls == due && due > 0, calls + " calls were run, README.md shows " + due);
        System.out.println(wrong == 0 ? "all answers are as due" : wrong + " faults");
        if (wrong != 0) {
            System.exit(1);
        }
    }

    /** The generated program calls this for each call of the examples. */
    public static void due(String call, long got, long want) {
        calls++;
        check(got == want, "README.md: " + call + " answered " + got);
    }

    private static void check(boolean holds, String complaint) {
        if (!holds) {
            wrong++;
            System.out.println(complaint);
        }
    }

    private static List<String> examples() throws IOException {
        List<String> found = new ArrayList<>();
        Matcher block = BLOCK.matcher(Files.readString(README));
        while (block.find()) {
            found.add(block.group(1));
        }
        return found;
    }

    private static void showEveryMethod(String examples) {
        for (Method method : MarkovChainDistances.class.getDeclaredMethods()) {
            boolean shown = examples.contains("chain." + method.getName() + "(");
            check(shown || !Modifier.isPublic(method.getModifiers()), "README.md does not show " + method.getName());
        }
    }

    private static String program(List<String> examples) {
        StringBuilder program = new StringBuilder("public final class " + GENERATED + " {\n");
        StringBuilder all = new StringBuilder("public static void main(String[] args) {\n");
        for (int i = 0; i < examples.size(); i++) {
            program.append("static void example").append(i).append("() {\n");
            for (String line : examples.get(i).split("\n")) {
                program.append(checked(line)).append("\n");
            }
            program.append("}\n");
            all.append("example").append(i).append("();\n");
        }
        return program.append(all).append("}\n}\n").toString();
    }

    /** The line itself, if it is no call with an answer; calls inside a loop are indented, and need none. */
    private static String checked(String line) {
        Matcher call = CALL.matcher(line);
        if (!call.matches()) {
            check(!line.matches("\\S.*chain\\.\\w+\\(.*|chain\\..*"), "README.md gives no answer: " + line);
            return line;
        }
        calls++;
        String text = "\"" + line.replace("\\", "\\\\").replace("\"", "\\\"") + "\"";
        String want = call.group(3).matches("[A-Z_]+") ? "MarkovChainDistances." + call.group(3) : call.group(3) + "L";
        String kept = call.group(1) == null ? "" : line + "\n";
        String got = call.group(1) == null ? call.group(2) : call.group(1);
        return kept + "ReadmeTest.due(" + text + ", " + got + ", " + want + ");";
    }

    private static void run(String program) throws Exception {
        Path directory = Files.createTempDirectory("readme");
        try {
            Path source = Files.writeString(directory.resolve(GENERATED + ".java"), program);
            JavaCompiler compiler = ToolProvider.getSystemJavaCompiler();
            int failed = compiler.run(null, null, null, "-encoding", "UTF-8", "-cp", System.getProperty("java.class.path"),
                    "-d", directory.toString(), source.toString());
            check(failed == 0, "the examples of README.md do not compile");
            if (failed == 0) {
                try (URLClassLoader loader = new URLClassLoader(new URL[] {directory.toUri().toURL()}, ReadmeTest.class.getClassLoader())) {
                    loader.loadClass(GENERATED).getMethod("main", String[].class).invoke(null, (Object) new String[0]);
                }
            }
        } finally {
            delete(directory);
        }
    }

    private static void delete(Path directory) throws IOException {
        try (Stream<Path> files = Files.walk(directory)) {
            for (Path file : files.sorted(Comparator.reverseOrder()).toList()) {
                Files.delete(file);
            }
        }
    }
}
