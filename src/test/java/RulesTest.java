import java.io.IOException;
import java.nio.file.Files;
import java.nio.file.Path;
import java.util.Set;
import java.util.TreeSet;
import java.util.regex.Matcher;
import java.util.regex.Pattern;

/** LANGUAGE.md's rules that the program's own lines can tell: 2 to 6, 8, 10, 11 and 13. */
public final class RulesTest {
    private static final Path PROGRAM = Path.of("src/main/java/TextPress.java");
    private static final Set<String> LIBRARY = Set.of("Arrays.copyOf", "Arrays.copyOfRange", "Arrays.fill",
            "Math.max", "Math.min", "Math.abs", "System.arraycopy");
    private static final Set<String> EXCEPTIONS = Set.of("IllegalStateException", "IllegalArgumentException",
            "IndexOutOfBoundsException", "ArithmeticException");
    /** What is barred, and what would be a sign of it. */
    private static final String[] BARRED = {
        "package", "synchronized", "assert", "finally", "try", "catch", "volatile", "native", "transient",
        "strictfp", "double", "float", "var", "Object", "Thread", "Random", "hashCode", "equals", "toString",
        "protected", "while\\s*\\(\\s*true", "for\\s*\\(\\s*;\\s*;", "static\\s*\\{"
    };

    public static void main(String[] args) throws IOException {
        String source = Files.readString(PROGRAM);
        String code = bare(source);
        for (String barred : BARRED) {
            due("\"" + barred + "\"", found(code, "\\b(" + barred + ")"), Set.of());
        }
        due("lambdas and method references", found(code, "(->|::)"), Set.of());
        due("imports", found(code, "\\bimport\\s+([\\w.*\\s]+);"), Set.of("java.util.Arrays"));
        due("static functions", found(code, "\\b([A-Z][a-z]\\w*\\.[a-z]\\w*)\\s*\\("), LIBRARY);
        due("things thrown", found(code, "\\bthrow\\s+(.*?)\\("), prefixed("new ", EXCEPTIONS));
        due("exceptions' texts", found(code, "\\bthrow\\s[^;]*?\\(([^;]*)\\);"), Set.of("", "\"\""));
        due("exceptions declared", found(code, "\\bthrows\\s+(.*?)\\s*\\{"), EXCEPTIONS);
        due("arrays of arrays", found(code, "(\\]\\s*\\[)"), Set.of());
        due("types made", found(code, "\\bnew\\s+(\\w+)"), made(code));
        methods(code);
        Check.finish();
    }

    /** Every one that was found must be among those that may be. */
    private static void due(String what, Set<String> got, Set<String> may) {
        Set<String> beyond = new TreeSet<>(got);
        beyond.removeAll(may);
        Check.due(what + " that no rule allows: " + beyond, beyond.size(), 0);
    }

    /** The source without its comments, and with empty texts. */
    private static String bare(String source) {
        return source.replaceAll("(?s)/\\*.*?\\*/", "").replaceAll("//[^\\n]*", "")
                .replaceAll("\"[^\"\\n]*\"", "\"\"");
    }

    private static Set<String> found(String code, String pattern) {
        Set<String> found = new TreeSet<>();
        Matcher matcher = Pattern.compile(pattern, Pattern.DOTALL).matcher(code);
        while (matcher.find()) {
            found.add(matcher.group(1));
        }
        return found;
    }

    private static Set<String> prefixed(String prefix, Set<String> names) {
        Set<String> all = new TreeSet<>();
        for (String name : names) {
            all.add(prefix + name);
        }
        return all;
    }

    private static Set<String> made(String code) {
        Set<String> made = new TreeSet<>(found(code, "\\bclass\\s+(\\w+)"));
        made.addAll(Set.of("int", "byte"));
        made.addAll(EXCEPTIONS);
        return made;
    }

    /** Methods stand four or eight places in, as do their ends. */
    private static void methods(String code) {
        int methods = 0;
        int begun = 0;
        String[] lines = code.split("\n");
        for (int k = 0; k < lines.length; k++) {
            if (lines[k].matches("( {4}| {8})(?!if|for|while|switch|else)\\w[^=;]*\\)[\\w\\s]*\\{")) {
                begun = k;
                methods++;
            }
            if (lines[k].matches("( {4}| {8})\\}")) {
                int length = k - begun + 1;
                Check.due("more than sixty lines: " + lines[begun].strip(), length > 60 ? 1 : 0, 0);
            }
        }
        Check.due("fewer methods were seen than there are", methods < 50 ? 1 : 0, 0);
    }
}
