import java.io.IOException;
import java.lang.reflect.Constructor;
import java.lang.reflect.Field;
import java.lang.reflect.Method;
import java.lang.reflect.Modifier;
import java.nio.file.Files;
import java.nio.file.Path;
import java.util.ArrayList;
import java.util.Arrays;
import java.util.List;
import java.util.regex.Pattern;

/** The rules of LANGUAGE.md that the program's text and classes show: imports, words, sizes, types. */
final class RulesTest {
    private static final Path PROGRAM = Path.of("src/main/java/Peatland.java");
    private static final List<String> IMPORTS =
        List.of("import java.util.ArrayList;", "import java.util.Arrays;", "import java.util.List;");
    private static final List<String> FORBIDDEN = List.of("->", "::", "\\btry\\b", "\\bcatch\\b", "\\bfinally\\b",
        "\\bsynchronized\\b", "\\bassert\\b", "\\bSystem\\b", "\\bThread\\b", "\\bRandom\\b", "\\bpackage\\b",
        "\\bequals\\(", "\\bhashCode\\b", "\\btoString\\b", "\\binstanceof\\b", "\"\\s*\\+", "\\+\\s*\"",
        "Exact\\(", "\\bstatic \\{", "\\bnative\\b");
    private static final int LONGEST_METHOD = 60;
    private static final int MOST_CLASSES = 12;
    private static final int MOST_FIELDS = 20;
    private static final int MOST_PARAMETERS = 7;

    private RulesTest() {
    }

    public static void main(String[] args) throws IOException {
        List<String> lines = Files.readAllLines(PROGRAM);
        String code = withoutComments(String.join("\n", lines));
        for (String line : lines) {
            Check.due("an import beside the library: " + line, line.startsWith("import ") && !IMPORTS.contains(line), false);
            Check.due("a sign beside ASCII: " + line, line.chars().anyMatch(c -> c > 126), false);
        }
        for (String word : FORBIDDEN) {
            Check.due("stands in the program: " + word, Pattern.compile(word).matcher(code).find(), false);
        }
        checkMethodLengths(code.split("\n"));
        checkClasses();
        Check.end("RulesTest");
    }

    private static void checkClasses() {
        List<Class<?>> classes = new ArrayList<>(Arrays.asList(Peatland.class.getDeclaredClasses()));
        classes.add(Peatland.class);
        Check.due("too many classes: " + classes, classes.size() > MOST_CLASSES, false);
        for (Class<?> each : classes) {
            checkFields(each);
            for (Method method : each.getDeclaredMethods()) {
                Check.due("too many parameters: " + method, method.getParameterCount() > MOST_PARAMETERS, false);
            }
            for (Constructor<?> constructor : each.getDeclaredConstructors()) {
                Check.due("too many parameters: " + constructor, constructor.getParameterCount() > MOST_PARAMETERS, false);
            }
        }
    }

    private static void checkFields(Class<?> type) {
        int fields = 0;
        for (Field field : type.getDeclaredFields()) {
            boolean isStatic = Modifier.isStatic(field.getModifiers());
            fields += isStatic ? 0 : 1;
            boolean isConstant = Modifier.isFinal(field.getModifiers()) && field.getType() == int.class;
            Check.due("a static field that is no constant: " + field, isStatic && !isConstant, false);
            Check.due("a field of a type beside the rules: " + field, isAllowed(field.getType()), true);
        }
        Check.due("too many fields: " + type, fields > MOST_FIELDS, false);
    }

    private static boolean isAllowed(Class<?> type) {
        if (type.isArray()) {
            return type.getComponentType().isPrimitive() || isOwn(type.getComponentType());
        }
        return type.isPrimitive() || isOwn(type) || type == List.class || type == ArrayList.class || type == String.class;
    }

    private static boolean isOwn(Class<?> type) {
        return type.getEnclosingClass() == Peatland.class;
    }

    private static String withoutComments(String text) {
        return text.replaceAll("(?s)/\\*.*?\\*/", "").replaceAll("//[^\n]*", "");
    }

    /** A method ends with a brace that stands as deep as its head. */
    private static void checkMethodLengths(String[] lines) {
        for (int i = 0; i < lines.length; i++) {
            if (!lines[i].matches(" {4}(    )?[A-Za-z].*\\).*\\{")) {
                continue;
            }
            String depth = lines[i].startsWith("        ") ? "        " : "    ";
            int end = i;
            while (end < lines.length && !lines[end].equals(depth + "}")) {
                end++;
            }
            Check.due("a long method: " + lines[i], end - i >= LONGEST_METHOD, false);
        }
    }
}
