import java.io.IOException;
import java.lang.reflect.Method;
import java.lang.reflect.Modifier;
import java.nio.file.Files;
import java.nio.file.Path;
import java.util.ArrayList;
import java.util.List;
import java.util.regex.Matcher;
import java.util.regex.Pattern;
import java.util.stream.Stream;

/** What README.md shows: its examples are called and answered so, its tables are the class's. */
public final class ReadmeTest {
    private static final Path README = Path.of("README.md");
    private static final Path TESTS = Path.of("src/test/java");
    private static final String NEW_OBJECT = "SensorTapes x = new SensorTapes();";
    private static final Pattern EXAMPLE = Pattern.compile("(?s)```java\n(.*?)```");
    // The comment begins with the answer; behind a colon it may say more.
    private static final Pattern SHOWN = Pattern.compile("x\\.(\\w+\\([-\\d, ]*\\)); +// (-?\\d+|[A-Z]+)(: .+)?");
    private static final Pattern CONSTANT = Pattern.compile("(?m)^\\| `([A-Z]+)` \\| (-?\\d+) \\|");

    private static final Edges edges = new Edges();

    public static void main(String[] args) throws Exception {
        String readme = Files.readString(README);
        List<String> calls = examples(readme);
        everyCallIsShown(readme, calls);
        constants(readme);
        testsAreNamed(readme);
        edges.end();
    }

    /** Runs the examples; answers all their calls. */
    private static List<String> examples(String readme) {
        List<String> calls = new ArrayList<>();
        Matcher m = EXAMPLE.matcher(readme);
        int example = 0;
        while (m.find()) {
            example++;
            String[] lines = m.group(1).split("\n");
            due("example " + example + " begins with a new object", lines[0].equals(NEW_OBJECT));
            List<String> story = new ArrayList<>();
            for (int i = 1; i < lines.length; i++) {
                story.add(storyOf(lines[i]));
            }
            edges.edge("README.md, example " + example, String.join(" ", story));
            calls.addAll(story);
        }
        due("there are examples", example > 0);
        return calls;
    }

    /** A line that shows no call with its answer must not be passed over. */
    private static String storyOf(String line) {
        Matcher m = SHOWN.matcher(line);
        if (!m.matches()) {
            throw new IllegalArgumentException("no call with its answer: " + line);
        }
        return m.group(1) + " = " + m.group(2);
    }

    private static void everyCallIsShown(String readme, List<String> calls) {
        for (Method method : SensorTapes.class.getDeclaredMethods()) {
            if (Modifier.isPublic(method.getModifiers())) {
                String call = method.getName() + "(";
                due("an example of " + call + ")", calls.stream().anyMatch(shown -> shown.startsWith(call)));
                due("a row of the table for " + call + ")", readme.contains("\n| `" + call));
            }
        }
    }

    private static void constants(String readme) throws ReflectiveOperationException {
        Matcher m = CONSTANT.matcher(readme);
        int found = 0;
        while (m.find()) {
            found++;
            int is = SensorTapes.class.getField(m.group(1)).getInt(null);
            edges.due("README.md: " + m.group(1), Integer.parseInt(m.group(2)), is);
        }
        edges.due("README.md: constants", found, SensorTapes.class.getFields().length);
    }

    private static void testsAreNamed(String readme) throws IOException {
        try (Stream<Path> files = Files.list(TESTS)) {
            for (Path file : files.toList()) {
                String name = file.getFileName().toString().replace(".java", "");
                due("README.md names " + name, readme.contains("`" + name + "`"));
            }
        }
    }

    private static void due(String what, boolean holds) {
        edges.due(what, holds ? 1 : 0, 1);
    }
}
