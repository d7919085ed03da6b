import java.io.IOException;
import java.lang.reflect.Method;
import java.lang.reflect.Modifier;
import java.nio.file.Files;
import java.nio.file.Path;
import java.util.List;
import java.util.regex.Matcher;
import java.util.regex.Pattern;
import java.util.stream.Collectors;
import java.util.stream.Stream;

/** README.md: its example answers as it tells, its rows are right, and it names every call and every test. */
public final class ReadmeTest {
    private static final Pattern TEXT = Pattern.compile("for \\(byte b : \"(.*)\"\\.getBytes\\(\\)\\) \\{");
    private static final Pattern CALL = Pattern.compile("text\\.(\\w+\\([-0-9, ]*\\)); +// (-?\\d+): .*");
    private static final Pattern ROW = Pattern.compile("([qk][0-9].*;) {2,}.*");

    private static int wrong = 0;

    public static void main(String[] args) throws IOException {
        Path root = Path.of(System.getProperty("questiontext.root", "."));
        List<String> lines = Files.readAllLines(root.resolve("README.md"));
        example(lines);
        rows(lines);
        namesEveryCall(String.join("\n", lines));
        namesEveryTest(String.join("\n", lines), root.resolve("src/test/java"));
        if (wrong != 0) {
            System.out.println(wrong + " faults of README.md");
            System.exit(1);
        }
        Run.end();
    }

    private static void check(boolean right, String told) {
        if (!right) {
            wrong++;
            System.out.println(told);
        }
    }

    private static void example(List<String> lines) {
        Run run = new Run("the example of README.md");
        int calls = 0;
        for (String line : lines) {
            Matcher text = TEXT.matcher(line);
            Matcher call = CALL.matcher(line);
            if (text.matches()) {
                run.tape(text.group(1).replace("\\\"", "\""));
            } else if (call.matches()) {
                run.due(call.group(1), call.group(2));
                calls++;
            } else {
                check(!line.matches("text\\..*"), "no answer is told: " + line);
            }
        }
        check(calls > 0, "README.md has no example");
    }

    private static void rows(List<String> lines) {
        StringBuilder text = new StringBuilder();
        for (String line : lines) {
            Matcher row = ROW.matcher(line);
            if (row.matches()) {
                text.append(row.group(1));
            }
        }
        check(text.length() > 0, "README.md shows no rows");
        new Run("the rows of README.md").reads(text.toString(), 1);
    }

    private static void namesEveryCall(String readme) {
        for (Method method : QuestionText.class.getDeclaredMethods()) {
            String name = method.getName();
            if (Modifier.isPublic(method.getModifiers())) {
                check(readme.contains("text." + name + "("), "no example of " + name);
                check(readme.contains("`" + name + "("), "no row for " + name);
            }
        }
    }

    private static void namesEveryTest(String readme, Path tests) throws IOException {
        try (Stream<Path> files = Files.list(tests)) {
            for (String file : files.map(path -> path.getFileName().toString()).collect(Collectors.toList())) {
                String name = file.substring(0, file.indexOf('.'));
                check(!name.endsWith("Test") || readme.contains("| `" + name + "` |"), "no row for " + name);
            }
        }
    }
}
