import java.io.IOException;
import java.nio.file.Files;
import java.nio.file.Path;
import java.util.Set;
import java.util.regex.Matcher;
import java.util.regex.Pattern;

/** The words of the class keep to LANGUAGE.md (rules 2 to 6 and 9 to 13), as far as they show it. */
public final class LanguageTest {
    private static final Path SOURCE = Path.of("src/main/java/DependencyQueue.java");

    private static final String[] REFUSED = {
        "\\b(throw|throws|try|catch|synchronized|assert|import|package|native|transient|volatile)\\b",
        "\\b(var|yield|goto|instanceof|protected)\\b", "->", "::", "@", "\\w+Exact\\b",
        "\\b(equals|hashCode|toString|clone|getClass)\\b", "static \\{", "\\?\\s*>",
        "while \\(true\\)", "for \\(;", "\\bfor \\([^;]*;\\s*;", "[^/]/[^/*]", "%",
        "\\b(double|float|Object|Thread|Random|Runtime)\\b",
    };

    /** What stands before a dot with a capital letter: own classes and the library's. */
    private static final Set<String> LIBRARY =
            Set.of("Integer.bitCount", "Math.max", "Math.min", "System.arraycopy");

    private static int wrong = 0;

    public static void main(String[] args) throws IOException {
        String source = Files.readString(SOURCE);
        String code = withoutComments(source);
        for (String pattern : REFUSED) {
            Matcher matcher = Pattern.compile(pattern).matcher(code);
            while (matcher.find()) {
                wrong(lineOf(code, matcher.start()) + ": " + matcher.group());
            }
        }
        checkLibrary(code);
        checkLengths(code);
        if (!source.chars().allMatch(sign -> sign == '\n' || sign >= 32 && sign < 127)) {
            wrong("a character outside ASCII");
        }
        System.out.println(wrong + " wrong");
        System.exit(wrong == 0 ? 0 : 1);
    }

    private static void wrong(String what) {
        wrong++;
        System.out.println(what);
    }

    private static int lineOf(String code, int at) {
        return (int) code.substring(0, at).chars().filter(sign -> sign == '\n').count() + 1;
    }

    /** The lines stay, so that their numbers do. */
    private static String withoutComments(String source) {
        StringBuilder code = new StringBuilder();
        boolean block = false;
        for (String line : source.split("\n", -1)) {
            String rest = line;
            if (block || rest.trim().startsWith("/*")) {
                block = !rest.contains("*/");
                rest = "";
            }
            int comment = rest.indexOf("//");
            code.append(comment < 0 ? rest : rest.substring(0, comment)).append('\n');
        }
        return code.toString();
    }

    private static void checkLibrary(String code) {
        Matcher matcher = Pattern.compile("\\b([A-Z]\\w*[a-z]\\w*)\\.(\\w+)").matcher(code);
        while (matcher.find()) {
            boolean own = code.contains("class " + matcher.group(1) + " ");
            if (!own && !LIBRARY.contains(matcher.group())) {
                wrong(lineOf(code, matcher.start()) + ": " + matcher.group());
            }
        }
    }

    /** Methods end with a brace in the column in which they begin. */
    private static void checkLengths(String code) {
        String[] lines = code.split("\n");
        int begin = 0;
        for (int i = 0; i < lines.length; i++) {
            if (lines[i].matches("( {4}| {8})[a-z].*\\(.*\\{") && !lines[i].contains(" = ")) {
                begin = i;
            }
            if (lines[i].matches(" {4}\\}| {8}\\}") && i - begin > 60 && !isClassEnd(lines, i)) {
                wrong((begin + 1) + ": a method of more than sixty lines");
            }
        }
    }

    private static boolean isClassEnd(String[] lines, int at) {
        return lines[at - 1].matches(" {8}\\}");
    }
}
