import java.io.ByteArrayOutputStream;
import java.io.IOException;
import java.io.PrintStream;
import java.lang.reflect.Field;
import java.lang.reflect.Method;
import java.lang.reflect.Modifier;
import java.nio.charset.StandardCharsets;
import java.nio.file.Files;
import java.nio.file.Path;
import java.util.ArrayList;
import java.util.List;
import java.util.regex.Matcher;
import java.util.regex.Pattern;

/** README.md: its example answers what it names, and it names all that can be called and run. */
public final class ReadmeTest {
    private static final Due DUE = new Due("ReadmeTest");
    private static final Path README = Path.of("README.md");
    private static final Path TESTS = Path.of("src", "test", "java");
    private static final Pattern ANSWER = Pattern.compile("System\\.out\\.println\\((.*)\\); *// (\\S+): .*");

    public static void main(String[] args) throws IOException {
        List<String> readme = Files.readAllLines(README, StandardCharsets.UTF_8);
        List<String> example = Files.readAllLines(TESTS.resolve("Example.java"), StandardCharsets.UTF_8);
        DUE.is("the example of README.md", String.join("\n", shown(readme)), String.join("\n", example));
        theAnswersOfTheExample(example);
        String page = String.join("\n", readme);
        everyCallAndConstantIsNamed(page);
        everyTestIsNamed(page);
        DUE.end();
    }

    /** The lines of the page's Java code. */
    private static List<String> shown(List<String> readme) {
        List<String> code = new ArrayList<String>();
        boolean inside = false;
        for (String line : readme) {
            if (line.startsWith("```")) {
                inside = line.equals("```java");
            } else if (inside) {
                code.add(line);
            }
        }
        return code;
    }

    private static void theAnswersOfTheExample(List<String> example) {
        List<String> got = printed();
        int told = 0;
        for (String line : example) {
            if (line.contains("System.out")) {
                Matcher answer = ANSWER.matcher(line.trim());
                DUE.is("an answer is named: " + line.trim(), answer.matches() ? 1 : 0, 1);
                if (answer.matches() && told < got.size()) {
                    DUE.is("README.md: " + answer.group(1), got.get(told), answer.group(2));
                }
                told++;
            }
        }
        DUE.is("answers that the example prints", got.size(), told);
        DUE.is("there are some", told > 0 ? 1 : 0, 1);
    }

    private static List<String> printed() {
        PrintStream before = System.out;
        ByteArrayOutputStream bytes = new ByteArrayOutputStream();
        System.setOut(new PrintStream(bytes, true, StandardCharsets.UTF_8));
        Example.main(new String[0]);
        System.setOut(before);
        return bytes.toString(StandardCharsets.UTF_8).lines().toList();
    }

    private static void everyCallAndConstantIsNamed(String page) {
        for (Method one : MovedStalls.class.getDeclaredMethods()) {
            if (Modifier.isPublic(one.getModifiers())) {
                isNamed(page, one.getName());
            }
        }
        for (Field one : MovedStalls.class.getDeclaredFields()) {
            if (Modifier.isPublic(one.getModifiers())) {
                isNamed(page, one.getName());
            }
        }
    }

    private static void everyTestIsNamed(String page) throws IOException {
        try (var files = Files.list(TESTS)) {
            for (Path file : files.sorted().toList()) {
                String name = file.getFileName().toString();
                if (name.endsWith("Test.java")) {
                    isNamed(page, name.substring(0, name.length() - ".java".length()));
                }
            }
        }
    }

    private static void isNamed(String page, String name) {
        DUE.is("README.md names " + name, page.contains("`" + name + "`") ? 1 : 0, 1);
    }
}
