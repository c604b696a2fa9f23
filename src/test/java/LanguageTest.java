import java.lang.reflect.Field;
import java.lang.reflect.Method;
import java.lang.reflect.Modifier;
import java.nio.charset.StandardCharsets;
import java.nio.file.Files;
import java.nio.file.Path;
import java.util.List;
import java.util.regex.Matcher;
import java.util.regex.Pattern;

/** Those rules of LANGUAGE.md that a look at the program's lines can tell. */
final class LanguageTest {
    private static final List<String> WORDS_OUT = List.of("import", "package", "catch", "try", "finally",
            "synchronized", "assert", "lambda", "instanceof", "protected", "double", "float", "var", "static\\s*\\{",
            "->", "::", "System\\.(?!arraycopy)", "Math\\.(?!max|min|abs)", "Integer\\.(?!bitCount)");
    private static final int METHOD_LINES = 60;
    private static final int CLASSES = 12;
    private static final int FIELDS = 20;
    private static final int PARAMETERS = 7;

    private LanguageTest() {
    }

    static void run(String program) throws Exception {
        String source = Files.readString(Path.of(program), StandardCharsets.UTF_8);
        Checks.dueTrue("the program has signs 1 to 127 alone", source.chars().allMatch(c -> c >= 1 && c <= 127));
        String code = source.replaceAll("(?s)/\\*.*?\\*/", "").replaceAll("//[^\n]*", "")
                .replaceAll("\"[^\"\n]*\"", "\"\"");
        for (String word : WORDS_OUT) {
            String pattern = Character.isLetter(word.charAt(0)) ? "\\b" + word : word;
            String end = Character.isLetter(word.charAt(word.length() - 1)) ? "\\b" : "";
            Matcher found = Pattern.compile(pattern + end).matcher(code);
            Checks.dueText("the program's use of " + word, "", found.find() ? found.group() : "");
        }
        methodLengths(source);
        sizes();
    }

    private static void sizes() {
        Class<?>[] inside = OrchestraSeason.class.getDeclaredClasses();
        Checks.dueTrue("the file has few classes", inside.length + 1 <= CLASSES);
        sizesOf(OrchestraSeason.class);
        for (Class<?> nested : inside) {
            sizesOf(nested);
        }
    }

    private static void sizesOf(Class<?> type) {
        int fields = 0;
        for (Field field : type.getDeclaredFields()) {
            boolean isStatic = Modifier.isStatic(field.getModifiers());
            fields += isStatic ? 0 : 1;
            Checks.dueTrue(type.getName() + "." + field.getName() + " is no static state",
                    !isStatic || Modifier.isFinal(field.getModifiers()));
        }
        Checks.dueTrue(type.getName() + " has few fields", fields <= FIELDS);
        for (Method method : type.getDeclaredMethods()) {
            Checks.dueTrue(type.getName() + "." + method.getName() + " has few parameters",
                    method.getParameterCount() <= PARAMETERS);
        }
    }

    private static void methodLengths(String source) {
        int start = 0;
        int number = 0;
        for (String line : source.split("\n")) {
            number++;
            if (line.matches("( {4}| {8})\\S.*\\) (throws .*)?\\{") || line.matches(" {12}throws .*\\{")) {
                start = number;
            }
            if (line.matches("( {4}| {8})\\}")) {
                Checks.dueTrue("the method that ends in line " + number + " is short", number - start < METHOD_LINES);
            }
        }
    }
}
