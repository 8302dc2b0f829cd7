import java.lang.reflect.InvocationTargetException;
import java.lang.reflect.Method;
import java.nio.file.Files;
import java.nio.file.Path;
import java.util.Arrays;
import java.util.List;
import java.util.Set;
import java.util.TreeSet;
import java.util.regex.Matcher;
import java.util.regex.Pattern;

/** Makes each call of the examples in README.md, in their order, and compares its answer with the one in the comment. */
public final class ReadmeTest {
    private static final Pattern EXAMPLES = Pattern.compile("```java\n(.*?)```", Pattern.DOTALL);
    private static final String MAKING = "RailPendulum x = new RailPendulum();";
    // A call, and behind it a comment that begins with the answer, or with the exception that is thrown.
    private static final Pattern CALL = Pattern.compile("x\\.(\\w+)\\(([^)]*)\\); *// (-?\\w+)(:.*)?");

    private static final Set<String> called = new TreeSet<>();
    private static RailPendulum x;

    public static void main(String[] args) throws Exception {
        Matcher examples = EXAMPLES.matcher(Files.readString(Path.of("README.md")));
        while (examples.find()) {
            for (String line : examples.group(1).split("\n")) {
                tryLine(line.trim());
            }
        }
        // Each of these has its words in README.md, and so its example.
        for (String name : List.of("append", "parse", "errorPosition", "run", "setMode", "reset", "nudge", "setForce",
                "ticksToBalance", "ticksToStop", "farthest", "linkAfter", "undo", "saveSnapshot", "restoreSnapshot")) {
            Checks.due("README.md has an example of " + name, called.contains(name), true);
        }
        Checks.finish();
    }

    private static void tryLine(String line) throws Exception {
        Matcher call = CALL.matcher(line);
        if (line.equals(MAKING)) {
            x = new RailPendulum();
        } else if (call.matches()) {
            called.add(call.group(1));
            Checks.sameText(line, answerOf(call.group(1), call.group(2)), call.group(3));
        } else {
            Checks.due("an example that can be tried: " + line, line.isEmpty(), true);
        }
    }

    private static String answerOf(String name, String numbers) throws Exception {
        Object[] values = Arrays.stream(numbers.split(",")).map(String::trim).filter(number -> !number.isEmpty())
                .map(number -> (Object) Long.decode(number).intValue()).toArray();
        Class<?>[] types = new Class<?>[values.length];
        Arrays.fill(types, int.class);
        Method method = RailPendulum.class.getMethod(name, types);
        try {
            return String.valueOf(method.invoke(x, values));
        } catch (InvocationTargetException e) {
            return e.getCause().getClass().getSimpleName();
        }
    }
}
