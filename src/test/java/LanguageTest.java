import java.io.IOException;
import java.nio.file.Files;
import java.nio.file.Path;
import java.util.regex.Matcher;
import java.util.regex.Pattern;

/** The rules of LANGUAGE.md that can be seen in the text of the program, whose path is the first argument. */
public final class LanguageTest {
    private static final String[] FORBIDDEN = {"->", "::", "\\btry\\b", "\\bcatch\\b", "\\bfinally\\b", "\\bassert\\b",
        "\\bsynchronized\\b", "\\bpackage\\b", "\\bstatic\\s*\\{", "\\w+Exact\\b", "\\bSystem\\.(?!arraycopy)",
        "\\b(double|float|long|Object|Random|Thread)\\b", "\\bextends\\b", "\\bprotected\\b", "\\bwhile\\s*\\(\\s*true"};
    private static final Pattern ALLOWED_THROW = Pattern.compile("throw new (IllegalStateException|IllegalArgumentException"
        + "|IndexOutOfBoundsException|UnsupportedOperationException)\\(\"\"\\);");

    public static void main(String[] args) throws IOException {
        String text = Files.readString(Path.of(args[0]))
            .replaceAll("(?s)/\\*.*?\\*/", "").replaceAll("//[^\n]*", "").replaceAll("\"[^\"]*\"", "\"\"");
        for (String forbidden : FORBIDDEN) {
            Matcher matcher = Pattern.compile(forbidden).matcher(text);
            if (matcher.find()) {
                Calls.fail("the program has '" + matcher.group() + "'");
            }
        }
        String otherImports = text.replace("import java.util.Arrays;", "");
        if (otherImports.contains("import ")) {
            Calls.fail("the program imports more than java.util.Arrays");
        }
        if (ALLOWED_THROW.matcher(text).replaceAll("").contains("throw ")) {
            Calls.fail("the program throws in a form that is not allowed");
        }
        Calls.end();
    }
}
