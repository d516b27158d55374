import java.io.IOException;
import java.lang.reflect.Field;
import java.lang.reflect.Method;
import java.lang.reflect.Modifier;
import java.net.URL;
import java.net.URLClassLoader;
import java.nio.file.Files;
import java.nio.file.Path;
import java.util.ArrayList;
import java.util.List;
import java.util.Map;
import java.util.TreeMap;
import java.util.regex.Matcher;
import java.util.regex.Pattern;
import javax.tools.JavaCompiler;
import javax.tools.ToolProvider;

/**
 * README.md: its examples are compiled as they stand there and run, and each call must have the
 * answer that stands behind it; its tables must list all calls and all constants.
 */
public final class ReadmeTest {
    private static final Path README = Path.of("README.md");
    private static final String BEGIN = "DependencyQueue queue = new DependencyQueue();";

    /** A statement in an example, with the answer behind it and perhaps a remark. */
    private static final Pattern CALL =
            Pattern.compile("(int (\\w+) = )?(queue\\.\\w+\\([^;]*\\));\\s+// (\\w+)(: .+)?");
    private static final Pattern CALL_ROW = Pattern.compile("\\| `(\\w+)\\((.*?)\\)` \\|.*");
    private static final Pattern CONSTANT_ROW =
            Pattern.compile("\\| `([A-Z_]+)` \\| (-\\d+) \\|.*");

    private static int calls = 0;
    private static int wrong = 0;

    public static void main(String[] args) throws IOException, ReflectiveOperationException {
        List<String> lines = Files.readAllLines(README);
        runExamples(examplesOf(lines));
        checkTable(rowsOf(lines, CALL_ROW), callsOfClass(), "the calls");
        checkTable(rowsOf(lines, CONSTANT_ROW), constantsOfClass(), "the constants");
        System.out.println(calls + " calls, " + wrong + " wrong");
        System.exit(wrong == 0 && calls > 0 ? 0 : 1);
    }

    /** The compiled examples report each answer here. */
    public static void check(int line, long got, long due) {
        calls++;
        if (got != due) {
            fail("line " + line + " of README.md: the answer is " + got + ", not " + due);
        }
    }

    private static void fail(String what) {
        wrong++;
        System.out.println(what);
    }

    /** Each example as the body of a method. */
    private static List<String> examplesOf(List<String> lines) {
        List<String> examples = new ArrayList<>();
        StringBuilder body = null;
        for (int i = 0; i < lines.size(); i++) {
            String line = lines.get(i);
            if (body == null && line.equals("```java")) {
                body = new StringBuilder();
            } else if (body != null && line.equals("```")) {
                examples.add(body.toString());
                body = null;
            } else if (body != null) {
                body.append(withCheck(line, i + 1)).append('\n');
            }
        }
        return examples;
    }

    /** Only an example's first line and the lines of a loop may stand without an answer. */
    private static String withCheck(String line, int number) {
        Matcher call = CALL.matcher(line);
        if (!call.matches()) {
            boolean inLoop = line.startsWith("for (") || line.startsWith("    ") || line.equals("}");
            if (!line.equals(BEGIN) && !inLoop) {
                fail("line " + number + " of README.md gives no answer: " + line);
            }
            return line;
        }
        String due = call.group(4).matches("[A-Z_]+")
                ? "DependencyQueue." + call.group(4) : call.group(4);
        if (call.group(1) == null) {
            return "ReadmeTest.check(" + number + ", " + call.group(3) + ", " + due + ");";
        }
        return line + "\nReadmeTest.check(" + number + ", " + call.group(2) + ", " + due + ");";
    }

    private static void runExamples(List<String> examples)
            throws IOException, ReflectiveOperationException {
        StringBuilder source = new StringBuilder("public final class ReadmeExamples {\n");
        for (int i = 0; i < examples.size(); i++) {
            if (!examples.get(i).startsWith(BEGIN)) {
                fail("an example does not begin with a new object:\n" + examples.get(i));
            }
            source.append("public static void example" + i + "() {\n" + examples.get(i) + "}\n");
        }
        Path folder = Files.createTempDirectory("readme");
        Path file = folder.resolve("ReadmeExamples.java");
        Files.writeString(file, source.append("}\n"));
        try (URLClassLoader loader = new URLClassLoader(new URL[] {folder.toUri().toURL()})) {
            if (compile(file)) {
                Class<?> compiled = loader.loadClass("ReadmeExamples");
                for (int i = 0; i < examples.size(); i++) {
                    compiled.getMethod("example" + i).invoke(null);
                }
            }
        } finally {
            Files.deleteIfExists(folder.resolve("ReadmeExamples.class"));
            Files.deleteIfExists(file);
            Files.deleteIfExists(folder);
        }
    }

    private static boolean compile(Path file) {
        JavaCompiler compiler = ToolProvider.getSystemJavaCompiler();
        boolean compiled = compiler != null && 0 == compiler.run(null, null, null,
                "-cp", System.getProperty("java.class.path"),
                "-d", file.getParent().toString(), file.toString());
        if (!compiled) {
            fail("the examples of README.md do not compile");
        }
        return compiled;
    }

    /** The first column of a table with the second one, each row once. */
    private static Map<String, String> rowsOf(List<String> lines, Pattern pattern) {
        Map<String, String> rows = new TreeMap<>();
        for (String line : lines) {
            Matcher row = pattern.matcher(line);
            if (row.matches() && rows.put(row.group(1), row.group(2)) != null) {
                fail("README.md has two rows for " + row.group(1));
            }
        }
        return rows;
    }

    /** The class file has no names of parameters, so they are taken from the source. */
    private static Map<String, String> callsOfClass() throws IOException {
        String source = Files.readString(Path.of("src/main/java/DependencyQueue.java"));
        Map<String, String> found = new TreeMap<>();
        for (Method method : DependencyQueue.class.getDeclaredMethods()) {
            if (Modifier.isPublic(method.getModifiers())) {
                Matcher head = Pattern.compile("\n    public (?:int|long) " + method.getName()
                        + "\\((.*)\\) \\{").matcher(source);
                found.put(method.getName(), head.find() ? head.group(1).replace("int ", "") : "?");
            }
        }
        return found;
    }

    private static Map<String, String> constantsOfClass() throws IllegalAccessException {
        Map<String, String> found = new TreeMap<>();
        for (Field field : DependencyQueue.class.getDeclaredFields()) {
            if (Modifier.isPublic(field.getModifiers())) {
                found.put(field.getName(), Integer.toString(field.getInt(null)));
            }
        }
        return found;
    }

    private static void checkTable(Map<String, String> told, Map<String, String> held, String what) {
        if (!told.equals(held)) {
            fail("README.md tells " + what + " as " + told + ", but the class has " + held);
        }
    }
}
