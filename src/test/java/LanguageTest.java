import java.io.IOException;
import java.nio.file.Files;
import java.nio.file.Path;
import java.util.List;
import java.util.Set;
import java.util.regex.Matcher;
import java.util.regex.Pattern;

/** What of LANGUAGE.md a look at the program's text can tell; it is run from the project's directory. */
public final class LanguageTest {
    private static final Path PROGRAM = Path.of("src/main/java/CartelWatch.java");
    private static final int LONGEST_METHOD = 60;

    private static final String[] FORBIDDEN = {
        "\\bpackage\\b", "\\bimport\\b", "->", "::", "\\bsynchronized\\b", "\\bassert\\b", "\\bfinally\\b",
        "\\bcatch\\b", "\\bvar\\b", "\\bSystem\\.(?!arraycopy)", "\\bThread\\b", "Exact\\b", "\\bhashCode\\b",
        "\\btoString\\(\\) *\\{", "\"\\s*\\+|\\+\\s*\"", "\\bstatic\\s*\\{", "\\bnew \\w+\\(\\)\\s*\\{",
    };

    private static final Set<String> EXCEPTIONS = Set.of(
            "IllegalStateException", "IllegalArgumentException", "IndexOutOfBoundsException");

    public static void main(String[] args) throws IOException {
        String text = Files.readString(PROGRAM);
        signs(text);
        String code = text.replaceAll("//[^\n]*", "");
        for (String pattern : FORBIDDEN) {
            Matcher found = Pattern.compile(pattern).matcher(code);
            Checks.same("the program's text has " + pattern, found.find() ? found.group() : "", "");
        }
        exceptions(code);
        methodLengths(text.lines().toList());
        Checks.end();
    }

    private static void signs(String text) {
        boolean plain = text.chars().allMatch(sign -> sign == '\n' || sign >= 32 && sign < 127);
        Checks.same("all signs of the program are plain", plain, true);
    }

    private static void exceptions(String code) {
        Matcher thrown = Pattern.compile("\\bthrow\\b([^;]*);").matcher(code);
        while (thrown.find()) {
            Matcher made = Pattern.compile(" new (\\w+)\\(\"[^\"]*\"\\)").matcher(thrown.group(1));
            boolean due = made.matches() && EXCEPTIONS.contains(made.group(1));
            Checks.same("rule 6 allows the" + thrown.group(1), due, true);
        }
    }

    private static void methodLengths(List<String> lines) {
        int start = -1;
        for (int line = 0; line < lines.size(); line++) {
            String text = lines.get(line);
            if (text.matches("( {4}| {8})(public|private|static|int|boolean|void|[A-Z]\\w* )[^;=]*\\([^;=]*")) {
                start = line;
            }
            if (text.matches(" {4}\\}| {8}\\}") && start >= 0) {
                Checks.same("short enough: " + lines.get(start).trim(), line - start < LONGEST_METHOD, true);
            }
        }
    }
}
