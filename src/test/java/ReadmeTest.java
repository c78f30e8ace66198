import java.io.IOException;
import java.lang.reflect.InvocationTargetException;
import java.lang.reflect.Method;
import java.nio.file.Files;
import java.nio.file.Path;
import java.util.Arrays;
import java.util.TreeSet;
import java.util.regex.Matcher;
import java.util.regex.Pattern;

/** Makes the calls of the example in README.md and compares the answers that stand behind them. */
public final class ReadmeTest {
    private static final Pattern MAKING = Pattern.compile("PickPaths floor = new PickPaths\\((\\d+), (\\d+)\\);.*");
    private static final Pattern CALL =
        Pattern.compile("floor\\.(\\w+)\\(([^)]*)\\); +// (-?\\d+|nothing|throws \\w+)(:.*)?");

    private final Checks checks = new Checks();
    private final TreeSet<String> used = new TreeSet<>();
    private PickPaths floor = null;

    private void line(String line) throws IllegalAccessException {
        Matcher making = MAKING.matcher(line);
        Matcher call = CALL.matcher(line);
        if (making.matches()) {
            floor = new PickPaths(Integer.parseInt(making.group(1)), Integer.parseInt(making.group(2)));
        } else if (floor != null && call.matches()) {
            used.add(call.group(1));
            checks.same(line, answer(call.group(1), call.group(2)), call.group(3));
        } else {
            checks.same("the line " + line, "not read", "a call with its answer");
        }
    }

    private String answer(String name, String arguments) throws IllegalAccessException {
        String[] texts = arguments.isEmpty() ? new String[0] : arguments.split(", ");
        Object[] values = Arrays.stream(texts).map(ReadmeTest::value).toArray();
        try {
            Object answer = methodNamed(name).invoke(floor, values);
            return answer == null ? "nothing" : answer.toString();
        } catch (InvocationTargetException e) {
            return "throws " + e.getCause().getClass().getSimpleName();
        }
    }

    private static Object value(String text) {
        if (text.equals("true") || text.equals("false")) {
            return Boolean.valueOf(text);
        }
        return Integer.valueOf(text);
    }

    private static Method methodNamed(String name) {
        return Arrays.stream(PickPaths.class.getDeclaredMethods())
            .filter(method -> method.getName().equals(name)).findFirst().orElseThrow();
    }

    public static void main(String[] args) throws IOException, IllegalAccessException {
        ReadmeTest test = new ReadmeTest();
        boolean inExample = false;
        for (String line : Files.readAllLines(Path.of("README.md"))) {
            if (line.startsWith("```")) {
                inExample = line.equals("```java");
            } else if (inExample) {
                test.line(line);
            }
        }
        test.checks.same("calls in the example", String.join(" ", test.used),
            "bound cart closed count far full go left missing share step stop told walk");
        test.checks.finish();
    }
}
