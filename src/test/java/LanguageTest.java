import java.io.IOException;
import java.nio.file.Files;
import java.nio.file.Path;
import java.util.regex.Matcher;
import java.util.regex.Pattern;

/** The rules of LANGUAGE.md that can be seen in the text of the program, whose path is the first argument. */
public final class LanguageTest {
    private static final String[] FORBIDDEN = {"->", "::", "\\btry\\b", "\\bcatch\\b", "\\bfinally\\b", "\\bassert\\b",
        "\\bsynchronized\\b", "\\bpackage\\b", "\\bstatic\\s*\\{", "\\w+Exact\\b", "\\bSystem\\.(?!arraycopy)",
        "\\b(double|float|long|Object|Random|Thread)\\b", "\\bextends\\b", "\\bprotected\\b", "\\bwhile\\b", "\\bdo\\b"};
    private static final Pattern ALLOWED_THROW = Pattern.compile("throw new (IllegalStateException|IllegalArgumentException"
        + "|IndexOutOfBoundsException|UnsupportedOperationException)\\(\"\"\\);");
    private static final Pattern LOOP = Pattern.compile("\\bfor \\([^{]*\\{");
    private static final Pattern BOUNDED_LOOP =
        Pattern.compile("for \\(int (\\w+) = 0; \\1 < \\w+(?: && [^;]+)?; \\1\\+\\+\\) \\{");
    private static final Pattern METHOD = Pattern.compile("\n( +)[^\n;=]*\\([^;{]*\\)[^;{]*\\{\n(.*?)\n\\1\\}", Pattern.DOTALL);
    private static final int MOST_LINES = 60;

    public static void main(String[] args) throws IOException {
        String text = Files.readString(Path.of(args[0]))
            .replaceAll("(?s)/\\*.*?\\*/", "").replaceAll("//[^\n]*", "").replaceAll("\"[^\"]*\"", "\"\"");
        for (String forbidden : FORBIDDEN) {
            Matcher matcher = Pattern.compile(forbidden).matcher(text);
            if (matcher.find()) {
                Calls.fail("the program has '" + matcher.group() + "'");
            }
        }
        String otherImports = text.replace("import java.util.Arrays;", "");
        if (otherImports.contains("import ")) {
            Calls.fail("the program imports more than java.util.Arrays");
        }
        if (ALLOWED_THROW.matcher(text).replaceAll("").contains("throw ")) {
            Calls.fail("the program throws in a form that is not allowed");
        }
        checkLoops(text);
        checkMethods(text);
        Calls.end();
    }

    /** Rule 9: a counter against a bound, in the loop's own line. */
    private static void checkLoops(String text) {
        Matcher loops = LOOP.matcher(text);
        while (loops.find()) {
            if (!BOUNDED_LOOP.matcher(loops.group()).matches()) {
                Calls.fail("the program has a loop whose end is not seen: " + loops.group());
            }
        }
    }

    /** Rule 11: methods stay short. */
    private static void checkMethods(String text) {
        Matcher methods = METHOD.matcher(text);
        while (methods.find()) {
            if (methods.group(2).split("\n").length > MOST_LINES) {
                Calls.fail("the program has a method that is too long: " + methods.group().trim().split("\n")[0]);
            }
        }
    }
}
