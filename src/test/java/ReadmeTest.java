import java.io.IOException;
import java.lang.reflect.InvocationTargetException;
import java.lang.reflect.Method;
import java.lang.reflect.Modifier;
import java.net.URL;
import java.net.URLClassLoader;
import java.nio.file.DirectoryStream;
import java.nio.file.Files;
import java.nio.file.Path;
import java.util.HashMap;
import java.util.List;
import java.util.Map;
import java.util.Set;
import java.util.TreeMap;
import java.util.TreeSet;
import java.util.regex.Matcher;
import java.util.regex.Pattern;
import javax.tools.JavaCompiler;
import javax.tools.ToolProvider;

/**
 * What README.md shows is so when it is run. Its Java is put into one class: a block that begins with
 * 'static' as a method, each other one as a method's lines, where a line that ends with '// 4: words'
 * or '// 4' must answer 4.
 */
public final class ReadmeTest {
    private static final Path README = Path.of("README.md");
    private static final Path TESTS = Path.of("src/test/java");
    private static final Pattern SHOWN =
            Pattern.compile("\\s*\\w+ (\\w+) = (.*\\));\\s*// (-?\\d+|true|false)(:.*)?");
    private static final Pattern CALL = Pattern.compile("\\blogic\\.(\\w+)\\(");

    private static final Due due = new Due("ReadmeTest");
    private static final Map<Integer, String> calls = new TreeMap<>();
    private static final Map<Integer, String> shown = new TreeMap<>();
    private static final Set<String> called = new TreeSet<>();

    public static void main(String[] args) throws IOException, ReflectiveOperationException {
        List<String> lines = Files.readAllLines(README);
        answers(run(program(lines)));
        wholeFace();
        ownTests(lines);
        due.holds("README.md says how to run the tests", lines.contains(".ci/run"));
        due.holds(".ci/run can be run", Files.isExecutable(Path.of(".ci/run")));
        due.end();
    }

    /** One class of all the Java in the file; a line's answer is put under the line's number. */
    private static String program(List<String> lines) {
        StringBuilder program = new StringBuilder("public final class Readme {\n");
        StringBuilder all = new StringBuilder();
        for (int i = 0; i < lines.size(); i++) {
            if (!lines.get(i).equals("```java")) {
                continue;
            }
            int end = i + 1;
            while (end < lines.size() && !lines.get(end).equals("```")) {
                end++;
            }
            boolean isMethod = lines.get(i + 1).startsWith("static ");
            if (!isMethod) {
                program.append("static void at").append(i).append("(java.util.Map<Integer, Object> seen) {\n");
                all.append("at").append(i).append("(seen);\n");
            }
            block(program, lines, i + 1, end);
            program.append(isMethod ? "" : "}\n");
            i = end;
        }
        program.append("public static void all(java.util.Map<Integer, Object> seen) {\n");
        return program.append(all).append("}\n}\n").toString();
    }

    private static void block(StringBuilder program, List<String> lines, int begin, int end) {
        for (int i = begin; i < end; i++) {
            String line = lines.get(i);
            program.append(line).append('\n');
            Matcher matcher = SHOWN.matcher(line);
            if (matcher.matches()) {
                calls.put(i + 1, matcher.group(2));
                shown.put(i + 1, matcher.group(3));
                program.append("seen.put(").append(i + 1).append(", ").append(matcher.group(1)).append(");\n");
            } else {
                due.holds("line " + (i + 1) + " shows its answer: " + line, !line.matches(".*= (logic\\.|read\\().*"));
            }
            Matcher call = CALL.matcher(line);
            while (call.find()) {
                called.add(call.group(1));
            }
        }
    }

    private static Map<Integer, Object> run(String program) throws IOException, ReflectiveOperationException {
        Map<Integer, Object> seen = new HashMap<>();
        Path directory = Files.createTempDirectory("readme");
        try {
            Path file = Files.writeString(directory.resolve("Readme.java"), program);
            JavaCompiler compiler = ToolProvider.getSystemJavaCompiler();
            int failed = compiler.run(null, null, null, "-Xlint:all", "-Werror", "--release", "17",
                    "-cp", System.getProperty("java.class.path"), "-d", directory.toString(), file.toString());
            due.is("javac", failed, 0);
            if (failed == 0) {
                try (URLClassLoader loader = new URLClassLoader(new URL[] {directory.toUri().toURL()})) {
                    Method all = loader.loadClass("Readme").getMethod("all", Map.class);
                    all.invoke(null, seen);
                }
            }
        } catch (InvocationTargetException thrown) {
            due.is("README.md", "threw " + thrown.getCause(), "run to its end");
        } finally {
            delete(directory);
        }
        return seen;
    }

    private static void delete(Path directory) throws IOException {
        try (DirectoryStream<Path> files = Files.newDirectoryStream(directory)) {
            for (Path file : files) {
                Files.delete(file);
            }
        }
        Files.delete(directory);
    }

    private static void answers(Map<Integer, Object> seen) {
        due.holds("README.md shows answers", !shown.isEmpty());
        for (Map.Entry<Integer, String> each : shown.entrySet()) {
            int line = each.getKey();
            due.is("line " + line + ", " + calls.get(line), String.valueOf(seen.get(line)), each.getValue());
        }
    }

    private static void wholeFace() {
        Set<String> face = new TreeSet<>();
        for (Method method : ClueLogic.class.getDeclaredMethods()) {
            if (Modifier.isPublic(method.getModifiers())) {
                face.add(method.getName());
            }
        }
        due.is("what README.md calls", called.toString(), face.toString());
    }

    /** The table of the tests names each of them, and no other. */
    private static void ownTests(List<String> lines) throws IOException {
        Set<String> named = new TreeSet<>();
        for (String line : lines) {
            Matcher matcher = Pattern.compile("\\| `(\\w+Test)` \\|.*").matcher(line);
            if (matcher.matches()) {
                named.add(matcher.group(1) + ".java");
            }
        }
        Set<String> there = new TreeSet<>();
        try (DirectoryStream<Path> files = Files.newDirectoryStream(TESTS, "*Test.java")) {
            for (Path file : files) {
                there.add(file.getFileName().toString());
            }
        }
        due.is("the tests that README.md names", named.toString(), there.toString());
    }
}
