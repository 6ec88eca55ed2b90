import java.io.IOException;
import java.lang.reflect.InvocationTargetException;
import java.lang.reflect.Method;
import java.nio.file.Files;
import java.nio.file.Path;
import java.util.Arrays;
import java.util.regex.Matcher;
import java.util.regex.Pattern;

/** Runs the example of README.md, which .ci/run has beside it: its comments say what the class answers. */
public final class ReadmeTest {
    private static final Pattern CALL = Pattern.compile("site\\.(\\w+)\\(([^)]*)\\);(?:\\s*// (.*))?");
    private static final Pattern ANSWER = Pattern.compile("(?:answers )?(-?\\d+)[:,]?.*");
    private static final Pattern REFUSAL = Pattern.compile("throws (\\w+).*");

    private static final Check check = new Check();
    private static final CraneSite site = new CraneSite();
    private static int calls;
    private static int answers;

    public static void main(String[] args) throws IOException {
        for (String line : Files.readAllLines(Path.of("README.md"))) {
            Matcher call = CALL.matcher(line);
            if (call.matches()) {
                calls++;
                run(line, call.group(1), call.group(2), call.group(3) == null ? "" : call.group(3));
            }
        }
        check.equal("calls of the example", calls, 20);
        check.equal("answers that it tells", answers, 12);
        check.end();
    }

    private static void run(String line, String name, String numbers, String comment) {
        String got = outcome(name, Arrays.stream(numbers.split(", ")).map(Integer::valueOf).toArray());
        Matcher answer = ANSWER.matcher(comment);
        Matcher refusal = REFUSAL.matcher(comment);
        String due = "null";
        if (answer.matches()) {
            answers++;
            due = answer.group(1);
        } else if (refusal.matches()) {
            due = refusal.group(1);
        }
        if (!got.equals(due)) {
            check.fail(line + " came to " + got);
        }
    }

    /** The answer of the call, null if it has none, or the name of what it throws. */
    private static String outcome(String name, Object[] numbers) {
        for (Method method : CraneSite.class.getMethods()) {
            if (method.getName().equals(name)) {
                try {
                    return String.valueOf(method.invoke(site, numbers));
                } catch (InvocationTargetException refused) {
                    return refused.getCause().getClass().getSimpleName();
                } catch (ReflectiveOperationException | IllegalArgumentException wrong) {
                    return "no call: " + wrong;
                }
            }
        }
        return "no such call";
    }
}
