import java.io.IOException;
import java.lang.reflect.Method;
import java.lang.reflect.Modifier;
import java.nio.file.Files;
import java.nio.file.Path;
import java.util.HashMap;
import java.util.List;
import java.util.Map;
import java.util.regex.Matcher;
import java.util.regex.Pattern;
import java.util.stream.Stream;

/**
 * README.md: its example answers what it says, and uses every call of the face; and it names every test that there is.
 * A comment of the example that begins with a word and a colon tells the answer: a number, a name, or an exception.
 */
public final class ReadmeTest {
    private static final Pattern LINE =
        Pattern.compile("(?:int (\\w+) = )?kinds\\.(\\w+)\\(([^)]*)\\);\\s*//\\s*(?:(-?\\w+): )?.*");
    private static final Map<String, String> REFUSALS = Map.of("IllegalArgumentException", "unknown",
        "IndexOutOfBoundsException", "range", "IllegalStateException", "state", "UnsupportedOperationException", "room");

    private final Calls calls = Calls.on("README.md");
    private final Map<String, String> names = new HashMap<>();

    public static void main(String[] args) throws IOException {
        String readme = Files.readString(Path.of("README.md"));
        String example = readme.replaceAll("(?s).*?```java\n(.*?)```.*", "$1");
        new ReadmeTest().run(example);
        for (Method method : IncidentKinds.class.getDeclaredMethods()) {
            boolean used = example.contains("kinds." + method.getName() + "(");
            check(used || !Modifier.isPublic(method.getModifiers()), "the example does not use " + method.getName());
        }
        for (String test : tests()) {
            check(readme.contains("`" + test + "`"), "it does not name " + test);
        }
        Calls.end();
    }

    private void run(String example) {
        for (String line : example.split("\n")) {
            boolean isCall = line.contains("kinds.");
            Matcher matcher = LINE.matcher(line);
            if (isCall && matcher.matches()) {
                ask(line, matcher);
            } else {
                check(!isCall, "this line is no call with a comment: " + line);
            }
        }
    }

    private void ask(String line, Matcher parts) {
        StringBuilder call = new StringBuilder(parts.group(2));
        for (String argument : parts.group(3).split(", ")) {
            call.append(' ').append(names.getOrDefault(argument, argument));
        }
        String got = calls.answer(call.toString());
        String told = parts.group(4) == null ? "ok" : parts.group(4);
        String due = REFUSALS.getOrDefault(told, names.getOrDefault(told, told));
        check(got.equals(due), line + " answered " + got);
        if (parts.group(1) != null) {
            names.put(parts.group(1), got);
        }
    }

    private static List<String> tests() throws IOException {
        try (Stream<Path> files = Files.list(Path.of("src/test/java"))) {
            return files.map(file -> file.getFileName().toString().replace(".java", "")).sorted().toList();
        }
    }

    private static void check(boolean holds, String otherwise) {
        if (!holds) {
            Calls.fail("README.md: " + otherwise);
        }
    }
}
