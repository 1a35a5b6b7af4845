import java.io.IOException;
import java.nio.file.Files;
import java.nio.file.Path;
import java.util.ArrayList;
import java.util.Arrays;
import java.util.List;
import java.util.Map;
import java.util.TreeMap;
import java.util.regex.Matcher;
import java.util.regex.Pattern;

/**
 * Tests say which sentence of the document they hold, in a comment ahead of them: its place and its words. The words
 * must stand in that place, and no sentence of the document may be without such a test, but for those that leave
 * something free.
 */
public final class SentenceTest {
    private static final Path DOCUMENT = Path.of("../shared/DOC.md");
    private static final Path TESTS = Path.of("src/test/java");
    private static final Pattern PLACE = Pattern.compile("    // (Promise [0-9]+|Term [0-9]+|Rest): (.*)");
    private static final String MORE = "    //     ";
    private static final Pattern TEST = Pattern.compile("    private static void ([A-Za-z0-9]+)\\(\\) \\{");
    private static final Pattern LETTER = Pattern.compile("[A-Za-z0-9]");

    private static final int PROMISES = 65;
    // where each term begins, and where the last one ends
    private static final String[] TERMS = {"", "1. House.", "2. Settings.", "3. One night.", "4. Possible rooms.",
        "5. Descriptions.", "6. Scripts.", "7. Undo.", "If several exceptions "};

    // what stands in the document without a test of its words: titles, signatures (FaceTest has them), names of
    // parameters, and what is free
    private static final String[] NO_SENTENCE = {
        "# GhostRooms ## What it is ", "; what later calls answer is free.", "## The public face ```java .*? ``` ",
        "## Terms ", "[1-7][.] (House|Settings|One night|Possible rooms|Descriptions|Scripts|Undo)[.]",
        "## Promise [0-9]+: [A-Za-z ]+`[^`]+`: ", "- `[a-z]+`: ",
        "Ahead of the calls (`[A-Za-z]+`(, )?)+ the interface says: ----( undo, output, saved state| [a-z ]+)?",
        "## Not promised .*"};

    private static String document;
    private static final Map<String, List<String>> quotes = new TreeMap<>();

    public static void main(String[] args) throws IOException {
        document = oneLine(Files.readString(DOCUMENT));
        for (Path file : files()) {
            readTests(file);
        }
        for (int number = 1; number <= PROMISES; number++) {
            everySentence("Promise " + number);
        }
        for (int number = 1; number < TERMS.length - 1; number++) {
            everySentence("Term " + number);
        }
        everySentence("Rest");
        Check.end();
    }

    private static List<Path> files() throws IOException {
        try (var all = Files.list(TESTS)) {
            return all.filter(file -> file.toString().endsWith("Test.java")).sorted().toList();
        }
    }

    private static void readTests(Path file) throws IOException {
        String name = file.getFileName().toString();
        boolean allQuote = name.matches("(Edge[A-Za-z]+|Refused|Plain|Exact)Test[.]java");
        List<String> above = new ArrayList<>();
        // a long quotation goes on in the next lines
        String source = Files.readString(file).replace("\n" + MORE, " ");
        for (String line : source.split("\n")) {
            Matcher place = PLACE.matcher(line);
            Matcher test = TEST.matcher(line);
            if (place.matches()) {
                above.add(line);
                quoted(name, place.group(1), place.group(2));
            } else if (test.matches()) {
                Check.no(name + ": " + test.group(1) + " names no sentence", allQuote && above.isEmpty());
                above.clear();
            }
        }
        Check.due(name + ": sentences without a test", above.toString(), "[]");
    }

    private static void quoted(String file, String place, String quote) {
        boolean hasMarks = quote.length() > 2 && quote.startsWith("\"") && quote.endsWith("\"");
        Check.yes(file + ": " + quote + " has quotation marks", hasMarks);
        if (hasMarks) {
            String words = oneLine(quote.substring(1, quote.length() - 1));
            Check.yes(file + ": " + words + " stands in " + place, section(place).contains(words));
            quotes.computeIfAbsent(place, none -> new ArrayList<>()).add(words);
        }
    }

    /** Blanks out all that is quoted and all that is no sentence; nothing may be left but signs. */
    private static void everySentence(String place) {
        String text = section(place);
        StringBuilder left = new StringBuilder(text);
        for (String words : quotes.getOrDefault(place, List.of())) {
            for (int from = text.indexOf(words); from >= 0; from = text.indexOf(words, from + 1)) {
                blank(left, from, from + words.length());
            }
        }
        for (String pattern : NO_SENTENCE) {
            Matcher matcher = Pattern.compile(pattern).matcher(text);
            while (matcher.find()) {
                blank(left, matcher.start(), matcher.end());
            }
        }
        String rest = oneLine(left.toString());
        Check.yes(place + " has no test of: " + rest, !LETTER.matcher(rest).find());
    }

    private static void blank(StringBuilder text, int from, int to) {
        for (int i = from; i < to; i++) {
            text.setCharAt(i, ' ');
        }
    }

    /** The words of a promise, of a term, or of all that stands ahead of, between and behind them. */
    private static String section(String place) {
        if (place.equals("Rest")) {
            return document.substring(0, at(TERMS[1])) + document.substring(at(TERMS[8]), at("## Promise 1: "))
                    + document.substring(at("## Not promised"));
        }
        int number = Integer.parseInt(place.substring(place.indexOf(' ') + 1));
        if (place.startsWith("Term")) {
            return document.substring(at(TERMS[number]), at(TERMS[number + 1]));
        }
        String next = number < PROMISES ? "## Promise " + (number + 1) + ": " : "## Not promised";
        return document.substring(at("## Promise " + number + ": "), at(next));
    }

    private static int at(String words) {
        int index = document.indexOf(words);
        Check.yes("the document has " + words, index >= 0);
        return Math.max(0, index);
    }

    private static String oneLine(String text) {
        return String.join(" ", Arrays.asList(text.trim().split("\\s+")));
    }
}
