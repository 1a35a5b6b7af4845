import java.io.IOException;
import java.nio.file.Files;
import java.nio.file.Path;
import java.util.ArrayList;
import java.util.Arrays;
import java.util.List;
import java.util.Set;
import java.util.TreeSet;
import java.util.regex.Matcher;
import java.util.regex.Pattern;

/**
 * The tests of boundary cases say which sentence of the document they hold, in a comment ahead of them: its place and
 * its words. The words must stand in that place, and every promise and term must have such a test.
 */
public final class SentenceTest {
    private static final Path DOCUMENT = Path.of("../shared/DOC.md");
    private static final Path TESTS = Path.of("src/test/java");
    private static final Pattern PLACE = Pattern.compile("    // ((?:Promise|Term) [0-9]+|Rest): (.*)");
    private static final String MORE = "    //     ";
    private static final Pattern TEST = Pattern.compile("    private static void ([A-Za-z0-9]+)\\(\\) \\{");

    // where each term begins, and where the last one ends
    private static final String[] TERMS = {"", " 1. House.", " 2. Settings.", " 3. One night.", " 4. Possible rooms.",
        " 5. Descriptions.", " 6. Scripts.", " 7. Undo.", " If several exceptions "};

    private static String document;
    private static final Set<String> held = new TreeSet<>();

    public static void main(String[] args) throws IOException {
        document = oneLine(Files.readString(DOCUMENT));
        int tests = 0;
        for (Path file : files()) {
            tests += readTests(file);
        }
        Check.yes("tests of sentences: " + tests, tests > 100);
        for (int number = 1; number <= 65; number++) {
            Check.yes("a test holds Promise " + number, held.contains("Promise " + number));
        }
        for (int number = 1; number <= 7; number++) {
            Check.yes("a test holds Term " + number, held.contains("Term " + number));
        }
        Check.end();
    }

    private static List<Path> files() throws IOException {
        try (var all = Files.list(TESTS)) {
            Pattern name = Pattern.compile("(Edge[A-Za-z]+|Refused)Test[.]java");
            return all.filter(file -> name.matcher(file.getFileName().toString()).matches()).sorted().toList();
        }
    }

    private static int readTests(Path file) throws IOException {
        int tests = 0;
        List<String> above = new ArrayList<>();
        // a long quotation goes on in the next lines
        String source = Files.readString(file).replace("\n" + MORE, " ");
        for (String line : source.split("\n")) {
            Matcher place = PLACE.matcher(line);
            Matcher test = TEST.matcher(line);
            if (place.matches()) {
                above.add(place.group(1));
                quoted(file + ": " + line.trim(), place.group(1), place.group(2));
            } else if (test.matches()) {
                Check.no(file + ": " + test.group(1) + " names no sentence", above.isEmpty());
                held.addAll(above);
                above.clear();
                tests++;
            }
        }
        return tests;
    }

    private static void quoted(String what, String place, String quote) {
        boolean hasMarks = quote.length() > 2 && quote.startsWith("\"") && quote.endsWith("\"");
        Check.yes(what + " has quotation marks", hasMarks);
        if (hasMarks) {
            Check.yes(what + " stands there", section(place).contains(oneLine(quote.substring(1, quote.length() - 1))));
        }
    }

    private static String section(String place) {
        if (place.equals("Rest")) {
            return document;
        }
        boolean promise = place.startsWith("Promise");
        int number = Integer.parseInt(place.substring(place.indexOf(' ') + 1));
        String from = promise ? "## Promise " + number + ": " : TERMS[number];
        String to = promise ? " ## " : TERMS[number + 1];
        int begin = document.indexOf(from);
        int end = begin < 0 ? -1 : document.indexOf(to, begin + 3);
        Check.yes("the document has " + place, end > begin);
        return end > begin ? document.substring(begin, end) : "";
    }

    private static String oneLine(String text) {
        return String.join(" ", Arrays.asList(text.trim().split("\\s+")));
    }
}
