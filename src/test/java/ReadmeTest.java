import java.io.IOException;
import java.nio.file.Files;
import java.nio.file.Path;
import java.util.HashMap;
import java.util.Map;
import java.util.regex.Matcher;
import java.util.regex.Pattern;

@Case("README.md")
public final class ReadmeTest {
    private static final Pattern EXAMPLE = Pattern.compile("(?s)```java\n(.*?)```");
    private static final Pattern CALL = Pattern.compile("(?:int (\\w+) = )?heap\\.(\\w+)\\(([^)]*)\\);\\s*// (-?\\d+)\\b.*");

    public static void main(String[] arguments) {
        Cases.run(ReadmeTest.class);
    }

    private static String text() throws IOException {
        return Files.readString(Path.of(System.getProperty("readme")));
    }

    @Case("it is there, and says how to use the class and how to run its tests")
    static void there() throws IOException {
        for (String part : new String[] {"\n## Use\n", "src/main/java/GlulxHeap.java", "new GlulxHeap()", "\n## Tests\n",
            ".ci/run", "src/test/java", "../shared/tests"}) {
            if (!text().contains(part)) {
                Cases.fault("it does not say: " + part.strip());
            }
        }
    }

    @Case("it names every test of the project")
    static void namesTests() throws IOException {
        try (var files = Files.list(Path.of(System.getProperty("tests")))) {
            for (Path file : files.sorted().toList()) {
                String name = file.getFileName().toString().replace(".java", "");
                boolean isOfARow = name.matches("Promise(0[1-9]|1[0-9]|2[0-3])\\w+Test");
                if (!isOfARow && !text().contains("`" + name + "`")) {
                    Cases.fault("it does not name the test " + name);
                }
            }
        }
    }

    @Case("each call of its example answers what stands behind it")
    static void example() throws IOException {
        Matcher block = EXAMPLE.matcher(text());
        if (!block.find()) {
            Cases.fault("there is no example");
            return;
        }
        Run run = new Run();
        Map<String, Integer> names = new HashMap<>();
        int calls = 0;
        for (String line : block.group(1).lines().toList()) {
            Matcher call = CALL.matcher(line);
            if (call.matches()) {
                int due = Integer.parseInt(call.group(4));
                run.due(due, call.group(2), numbers(call.group(3), names));
                names.put(String.valueOf(call.group(1)), due);
                calls++;
            } else if (!line.equals("GlulxHeap heap = new GlulxHeap();")) {
                Cases.fault("no call with its answer: " + line);
            }
        }
        if (calls == 0) {
            Cases.fault("the example has no call");
        }
    }

    private static int[] numbers(String arguments, Map<String, Integer> names) {
        if (arguments.isBlank()) {
            return new int[0];
        }
        String[] parts = arguments.split(",");
        int[] numbers = new int[parts.length];
        for (int i = 0; i < parts.length; i++) {
            String part = parts[i].strip();
            numbers[i] = names.containsKey(part) ? names.get(part) : Integer.parseInt(part);
        }
        return numbers;
    }
}
