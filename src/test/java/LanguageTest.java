import java.io.IOException;
import java.nio.file.Files;
import java.nio.file.Path;
import java.util.List;
import java.util.regex.Matcher;
import java.util.regex.Pattern;

/** What of LANGUAGE.md the words of the program's file tell. It is run in the project's folder. */
public final class LanguageTest {
    private static final Checks CHECKS = new Checks();
    private static final String[] FORBIDDEN = {
        "\\bthrow\\b", "\\bthrows\\b", "\\btry\\b", "\\bcatch\\b", "\\bsynchronized\\b",
        "\\bassert\\b", "->", "::", "\\bpackage\\b", "\\bprotected\\b", "Exact\\(", "\"",
        "\\bequals\\(", "\\bhashCode\\(", "\\btoString\\(", "\\bwhile \\(true", "for \\(;;",
        "\\bMath\\.(?!min|max)", "\\bArrays\\.(?!fill|copyOf|copyOfRange)", "\\bSystem\\.(?!arraycopy)",
    };

    public static void main(String[] args) throws IOException {
        List<String> lines = Files.readAllLines(Path.of("src/main/java/LetterTree.java"));
        String text = String.join("\n", lines);
        String code = text.replaceAll("(?s)/\\*.*?\\*/", "").replaceAll("//[^\n]*", "");
        for (String word : FORBIDDEN) {
            Matcher matcher = Pattern.compile(word).matcher(code);
            CHECKS.holds("no " + word, !matcher.find());
        }
        for (String line : lines) {
            boolean imports = line.startsWith("import ");
            CHECKS.holds(line, !imports || line.matches("import java\\.util\\.(ArrayList|Arrays);"));
        }
        methodsAreShort(lines);
        CHECKS.end();
    }

    private static void methodsAreShort(List<String> lines) {
        for (int i = 0; i < lines.size(); i++) {
            Matcher begin = Pattern.compile("( {4}| {8})[a-zA-Z].*\\) \\{").matcher(lines.get(i));
            if (begin.matches()) {
                int end = i + lines.subList(i, lines.size()).indexOf(begin.group(1) + "}");
                CHECKS.holds("a short method in line " + (i + 1), end > i && end - i < 60);
            }
        }
    }
}
