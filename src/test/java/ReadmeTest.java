import java.io.ByteArrayOutputStream;
import java.io.IOException;
import java.io.PrintStream;
import java.lang.reflect.Field;
import java.lang.reflect.Method;
import java.lang.reflect.Modifier;
import java.nio.charset.StandardCharsets;
import java.nio.file.DirectoryStream;
import java.nio.file.Files;
import java.nio.file.Path;
import java.util.regex.Matcher;
import java.util.regex.Pattern;

/** README.md tells all calls, all tests, and an example that prints what it says. */
final class ReadmeTest {
    private static final Path README = Path.of("README.md");
    private static final Path TESTS = Path.of("src/test/java");
    private static final Pattern TEST = Pattern.compile("`(\\w+Test)`");

    private ReadmeTest() {
    }

    public static void main(String[] args) throws IOException {
        String text = Files.readString(README);
        checkFace(text);
        checkTests(text);
        checkExample(text);
        Check.end("ReadmeTest");
    }

    private static void checkFace(String text) {
        for (Method method : Peatland.class.getDeclaredMethods()) {
            if (Modifier.isPublic(method.getModifiers())) {
                Check.due("the call is told: " + method.getName(), text.contains("`" + method.getName() + "`"), true);
            }
        }
        for (Field field : Peatland.class.getDeclaredFields()) {
            if (Modifier.isPublic(field.getModifiers())) {
                boolean isTold = Pattern.compile("`(Peatland\\.)?" + field.getName() + "`").matcher(text).find();
                Check.due("the constant is told: " + field.getName(), isTold, true);
            }
        }
    }

    private static void checkTests(String text) throws IOException {
        try (DirectoryStream<Path> files = Files.newDirectoryStream(TESTS, "*Test.java")) {
            for (Path file : files) {
                String name = file.getFileName().toString().replace(".java", "");
                Check.due("the test is told: " + name, text.contains("`" + name + "`"), true);
            }
        }
        Matcher told = TEST.matcher(text);
        while (told.find()) {
            Check.due("the test is there: " + told.group(1), Files.exists(TESTS.resolve(told.group(1) + ".java")), true);
        }
    }

    private static void checkExample(String text) throws IOException {
        String code = Files.readString(TESTS.resolve("Example.java"));
        Check.due("the example stands in README.md", text.contains("```java\n" + code + "```"), true);
        Check.due("and what it prints", text.contains("```\n" + printedByExample() + "```"), true);
    }

    private static String printedByExample() {
        PrintStream before = System.out;
        ByteArrayOutputStream printed = new ByteArrayOutputStream();
        try (PrintStream caught = new PrintStream(printed, true, StandardCharsets.UTF_8)) {
            System.setOut(caught);
            Example.main(new String[0]);
        } finally {
            System.setOut(before);
        }
        return printed.toString(StandardCharsets.UTF_8).replace(System.lineSeparator(), "\n");
    }
}
