import java.io.IOException;
import java.nio.file.Files;
import java.nio.file.Path;
import java.util.List;
import java.util.regex.Pattern;

/** The rules of LANGUAGE.md that the text of the program shows: imports, words, lengths of methods. */
final class RulesTest {
    private static final Path PROGRAM = Path.of("src/main/java/Peatland.java");
    private static final List<String> IMPORTS =
        List.of("import java.util.ArrayList;", "import java.util.Arrays;", "import java.util.List;");
    private static final List<String> FORBIDDEN = List.of("->", "::", "\\btry\\b", "\\bcatch\\b", "\\bfinally\\b",
        "\\bsynchronized\\b", "\\bassert\\b", "\\bSystem\\b", "\\bThread\\b", "\\bRandom\\b", "\\bpackage\\b",
        "\\bequals\\(", "\\bhashCode\\b", "\\btoString\\b", "\\binstanceof\\b", "\"\\s*\\+", "\\+\\s*\"",
        "Exact\\(", "\\bstatic \\{", "\\bnative\\b");
    private static final int LONGEST_METHOD = 60;

    private RulesTest() {
    }

    public static void main(String[] args) throws IOException {
        List<String> lines = Files.readAllLines(PROGRAM);
        String code = withoutComments(String.join("\n", lines));
        for (String line : lines) {
            Check.due("an import beside the library: " + line, line.startsWith("import ") && !IMPORTS.contains(line), false);
            Check.due("a sign beside ASCII: " + line, line.chars().anyMatch(c -> c > 126), false);
        }
        for (String word : FORBIDDEN) {
            Check.due("stands in the program: " + word, Pattern.compile(word).matcher(code).find(), false);
        }
        checkMethodLengths(code.split("\n"));
        Check.end("RulesTest");
    }

    private static String withoutComments(String text) {
        return text.replaceAll("(?s)/\\*.*?\\*/", "").replaceAll("//[^\n]*", "");
    }

    /** A method ends with a brace that stands as deep as its head. */
    private static void checkMethodLengths(String[] lines) {
        for (int i = 0; i < lines.length; i++) {
            if (!lines[i].matches(" {4}(    )?[A-Za-z].*\\).*\\{")) {
                continue;
            }
            String depth = lines[i].startsWith("        ") ? "        " : "    ";
            int end = i;
            while (end < lines.length && !lines[end].equals(depth + "}")) {
                end++;
            }
            Check.due("a long method: " + lines[i], end - i >= LONGEST_METHOD, false);
        }
    }
}
