import java.io.ByteArrayOutputStream;
import java.io.IOException;
import java.io.PrintStream;
import java.nio.charset.StandardCharsets;
import java.nio.file.Files;
import java.nio.file.Path;
import java.util.ArrayList;
import java.util.List;

/** README.md shows the program Use as it stands here, with what it prints, and names every test and no other. */
public final class ReadmeTest {
    private static final Path README = Path.of("README.md");
    private static final Path TESTS = Path.of("src/test/java");
    private static final String ANSWER = "// = ";

    public static void main(String[] args) throws IOException {
        String readme = Files.readString(README);
        String program = Files.readString(TESTS.resolve("Use.java"));
        Check.yes("README.md shows Use.java", readme.contains("```java\n" + program + "```\n"));
        Check.due("what Use prints", printed(), answers(program));
        Check.due("the tests in README.md", namedTests(readme), tests());
        Check.end();
    }

    /** A comment in a line of its own is an answer as a whole, behind a call its first word is. */
    private static String answers(String program) {
        StringBuilder text = new StringBuilder();
        for (String line : program.split("\n")) {
            int from = line.indexOf(ANSWER);
            if (from >= 0) {
                String answer = line.substring(from + ANSWER.length());
                text.append(line.trim().startsWith(ANSWER) ? answer : answer.split(" ")[0]).append('\n');
            }
        }
        return text.toString();
    }

    private static String printed() {
        PrintStream screen = System.out;
        ByteArrayOutputStream bytes = new ByteArrayOutputStream();
        System.setOut(new PrintStream(bytes, true, StandardCharsets.ISO_8859_1));
        Use.main(new String[0]);
        System.setOut(screen);
        return bytes.toString(StandardCharsets.ISO_8859_1).replace(System.lineSeparator(), "\n");
    }

    private static List<String> namedTests(String readme) {
        List<String> names = new ArrayList<>();
        for (String line : readme.split("\n")) {
            if (line.matches("[|] `[A-Za-z]+Test` [|].*")) {
                names.add(line.substring(3, line.indexOf('`', 3)));
            }
        }
        return names.stream().sorted().toList();
    }

    private static List<String> tests() throws IOException {
        try (var all = Files.list(TESTS)) {
            return all.map(file -> file.getFileName().toString()).filter(name -> name.endsWith("Test.java"))
                    .map(name -> name.substring(0, name.length() - ".java".length())).sorted().toList();
        }
    }
}
