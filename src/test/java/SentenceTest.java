import java.io.IOException;
import java.nio.file.DirectoryStream;
import java.nio.file.Files;
import java.nio.file.Path;
import java.util.ArrayList;
import java.util.LinkedHashMap;
import java.util.List;
import java.util.Map;
import java.util.regex.Matcher;
import java.util.regex.Pattern;

/**
 * Each test of a boundary quotes its sentence in a line above it, as in: Promise 2: "there are 40
 * parcels". The quotes stand in the document, and no sentence that names a boundary is left out.
 */
final class SentenceTest {
    private static final Path DOC = Path.of("../shared/DOC.md");
    private static final Path TESTS = Path.of("src/test/java");
    private static final Pattern QUOTING = Pattern.compile("\\s*// (Promise \\d+|Terms|What it is)(?:, promises? [^:]*)?: (\".*)");
    private static final Pattern QUOTE = Pattern.compile("\"([^\"]*)\"");
    private static final Pattern SECTION = Pattern.compile("## (Promise \\d+|[^:]*).*");

    /** Sentences that name no boundary. */
    private static final List<String> WITHOUT = List.of("The commission acts, days pass;", ", is of a person,");

    /** A line of the document, and what is left of it without all that is quoted. */
    private static final class Line {
        final String text;
        final StringBuilder left;

        Line(String text) {
            this.text = text;
            this.left = new StringBuilder(text);
        }

        boolean strike(String quote) {
            int at = text.indexOf(quote);
            for (int i = 0; at >= 0 && i < quote.length(); i++) {
                left.setCharAt(at + i, ' ');
            }
            return at >= 0;
        }

        /** Whether only small words and signs are left. */
        boolean isStruck() {
            String rest = left.toString();
            for (String each : WITHOUT) {
                rest = rest.replace(each, "");
            }
            return !Pattern.compile("[A-Za-z]{4}|\\d").matcher(rest).find();
        }
    }

    private final Map<String, List<Line>> sections = new LinkedHashMap<>();
    private int quotes;

    private SentenceTest() {
    }

    public static void main(String[] args) throws IOException {
        if (!Files.exists(DOC)) {
            System.out.println("SentenceTest: there is no " + DOC + ", the quotes were not looked at");
            return;
        }
        SentenceTest test = new SentenceTest();
        test.readDocument();
        try (DirectoryStream<Path> files = Files.newDirectoryStream(TESTS, "*.java")) {
            for (Path file : files) {
                test.strikeQuotesOf(file);
            }
        }
        Check.due("there are quotes", test.quotes > 200, true);
        test.checkWhatIsLeft();
        Check.end("SentenceTest");
    }

    private void readDocument() throws IOException {
        List<Line> lines = new ArrayList<>();
        for (String line : Files.readAllLines(DOC)) {
            Matcher head = SECTION.matcher(line);
            if (head.matches()) {
                lines = new ArrayList<>();
                sections.put(head.group(1), lines);
            } else if (!line.startsWith("#")) {
                lines.add(new Line(line.replace("`", "")));
            }
        }
    }

    private void strikeQuotesOf(Path file) throws IOException {
        for (String line : Files.readAllLines(file)) {
            Matcher quoting = QUOTING.matcher(line);
            if (!quoting.matches()) {
                continue;
            }
            Matcher quote = QUOTE.matcher(quoting.group(2));
            while (quote.find()) {
                quotes++;
                boolean stands = strike(quoting.group(1), quote.group(1));
                Check.due(file.getFileName() + " quotes what stands there: " + line.trim(), stands, true);
            }
        }
    }

    private boolean strike(String section, String quote) {
        for (Line line : sections.getOrDefault(section, List.of())) {
            if (line.strike(quote)) {
                return true;
            }
        }
        return false;
    }

    private void checkWhatIsLeft() {
        for (Map.Entry<String, List<Line>> section : sections.entrySet()) {
            boolean isOfTerms = section.getKey().equals("Terms");
            for (Line line : section.getValue()) {
                if (isOfTerms ? isSentence(line.text) : isRangeOrThrown(line.text)) {
                    Check.due(section.getKey() + " has a test for: " + line.left, line.isStruck(), true);
                }
            }
        }
    }

    private static boolean isRangeOrThrown(String line) {
        return line.startsWith("- ") && line.matches(".*\\d.*") || line.startsWith("Throws ");
    }

    /** No heading, nor what FaceTest looks at. */
    private static boolean isSentence(String line) {
        return line.matches(".*\\.\\)?") && !line.contains("the interface says") && !line.contains(" = ");
    }
}
