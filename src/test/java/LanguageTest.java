import java.nio.charset.StandardCharsets;
import java.nio.file.Files;
import java.nio.file.Path;
import java.util.List;
import java.util.regex.Matcher;
import java.util.regex.Pattern;

/** Those rules of LANGUAGE.md that a look at the program's lines can tell. */
final class LanguageTest {
    private static final List<String> WORDS_OUT = List.of("import", "package", "catch", "try", "finally",
            "synchronized", "assert", "lambda", "instanceof", "protected", "double", "float", "var", "static\\s*\\{",
            "->", "::", "System\\.(?!arraycopy)", "Math\\.(?!max|min|abs)", "Integer\\.(?!bitCount)");
    private static final int METHOD_LINES = 60;

    private LanguageTest() {
    }

    static void run(String program) throws Exception {
        String source = Files.readString(Path.of(program), StandardCharsets.UTF_8);
        Checks.dueTrue("the program has signs 1 to 127 alone", source.chars().allMatch(c -> c >= 1 && c <= 127));
        String code = source.replaceAll("(?s)/\\*.*?\\*/", "").replaceAll("//[^\n]*", "")
                .replaceAll("\"[^\"\n]*\"", "\"\"");
        for (String word : WORDS_OUT) {
            String pattern = Character.isLetter(word.charAt(0)) ? "\\b" + word : word;
            String end = Character.isLetter(word.charAt(word.length() - 1)) ? "\\b" : "";
            Matcher found = Pattern.compile(pattern + end).matcher(code);
            Checks.dueText("the program's use of " + word, "", found.find() ? found.group() : "");
        }
        methodLengths(source);
    }

    private static void methodLengths(String source) {
        int start = 0;
        int number = 0;
        for (String line : source.split("\n")) {
            number++;
            if (line.matches("( {4}| {8})\\S.*\\) (throws .*)?\\{") || line.matches(" {12}throws .*\\{")) {
                start = number;
            }
            if (line.matches("( {4}| {8})\\}")) {
                Checks.dueTrue("the method that ends in line " + number + " is short", number - start < METHOD_LINES);
            }
        }
    }
}
