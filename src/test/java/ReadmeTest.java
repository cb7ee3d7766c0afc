import java.io.File;
import java.io.IOException;
import java.lang.reflect.Method;
import java.nio.file.Files;
import java.nio.file.Path;
import java.util.regex.Matcher;
import java.util.regex.Pattern;

/** What README.md tells of the class is so. It is run in the project's folder. */
public final class ReadmeTest {
    private static final Checks CHECKS = new Checks();
    private static final Pattern CALL =
            Pattern.compile("store\\.(\\w+)\\((.*)\\); *// (-?\\d+)(?:[:,].*)?");
    private static final Pattern ANSWER = Pattern.compile("\\| `([A-Z]+)` \\| (-\\d) \\|");

    public static void main(String[] args) throws ReflectiveOperationException, IOException {
        String readme = Files.readString(Path.of("README.md"));
        example(readme.substring(readme.indexOf("```java"), readme.lastIndexOf("```")));
        answersBelow0(readme);
        for (Method method : LetterTree.class.getMethods()) {
            boolean own = method.getDeclaringClass() == LetterTree.class;
            String name = method.getName();
            CHECKS.holds("README names " + name, !own || readme.contains("`" + name + "`"));
        }
        for (String file : new File("src/test/java").list()) {
            String name = file.replace(".java", "");
            CHECKS.holds("README names " + name, readme.contains("`" + name + "`"));
        }
        CHECKS.holds("README tells how the tests are run", readme.contains("    .ci/run\n"));
        CHECKS.end();
    }

    private static void example(String text) throws ReflectiveOperationException {
        LetterTree store = new LetterTree();
        int calls = 0;
        for (String line : text.split("\n")) {
            if (line.startsWith("store.")) {
                Matcher call = CALL.matcher(line);
                CHECKS.holds("a call with its answer: " + line, call.matches());
                calls++;
                CHECKS.due(line, answer(store, call.group(1), call.group(2)),
                        Long.parseLong(call.group(3)));
            }
        }
        CHECKS.holds("an example with calls", calls > 10);
    }

    private static long answer(LetterTree store, String name, String arguments)
            throws ReflectiveOperationException {
        String[] told = arguments.isEmpty() ? new String[0] : arguments.split(", ");
        for (Method method : LetterTree.class.getMethods()) {
            if (method.getName().equals(name) && method.getParameterCount() == told.length) {
                Object[] values = new Object[told.length];
                for (int i = 0; i < told.length; i++) {
                    long value = Long.decode(told[i]);
                    boolean isInt = method.getParameterTypes()[i] == int.class;
                    values[i] = isInt ? (Object) (int) value : (Object) value;
                }
                return ((Number) method.invoke(store, values)).longValue();
            }
        }
        CHECKS.holds("there is a call " + name, false);
        return 0;
    }

    private static void answersBelow0(String readme) throws ReflectiveOperationException {
        Matcher answer = ANSWER.matcher(readme);
        int answers = 0;
        while (answer.find()) {
            answers++;
            int value = LetterTree.class.getField(answer.group(1)).getInt(null);
            CHECKS.due(answer.group(1), value, Long.parseLong(answer.group(2)));
        }
        CHECKS.due("answers below 0", answers, 5);
    }
}
