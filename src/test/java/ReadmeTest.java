import java.io.IOException;
import java.lang.reflect.InvocationTargetException;
import java.lang.reflect.Method;
import java.nio.file.Files;
import java.nio.file.Path;
import java.util.regex.Matcher;
import java.util.regex.Pattern;

/** The example in README.md: each of its calls answers, or throws, what stands behind it. */
public final class ReadmeTest {
    private static final Check check = new Check("ReadmeTest");
    private static final Pattern EXAMPLE = Pattern.compile("```java\n(.*?)```", Pattern.DOTALL);
    private static final Pattern CALL = Pattern.compile("x\\.(\\w+)\\((.*)\\); +// (.*)");
    private static final Pattern THROWS = Pattern.compile("throws (\\w+).*");
    private static final Pattern NUMBER = Pattern.compile("(-?\\d+)(:.*)?");
    private static final String FIRST_LINE = "CacheLadder x = new CacheLadder();";

    private final CacheLadder x = new CacheLadder();

    public static void main(String[] args) throws IOException, IllegalAccessException {
        Matcher example = EXAMPLE.matcher(Files.readString(Path.of("README.md")));
        check.due("README.md has an example", example.find() ? 1 : 0, 1);
        String[] lines = example.group(1).split("\n");
        check.due("its first line", lines[0], FIRST_LINE);
        ReadmeTest test = new ReadmeTest();
        for (int i = 1; i < lines.length; i++) {
            test.dueLine(lines[i]);
        }
        check.end();
    }

    private void dueLine(String line) throws IllegalAccessException {
        Matcher call = CALL.matcher(line);
        if (!call.matches()) {
            check.due(line, "no call with its answer", "a call with its answer");
            return;
        }
        check.due(line, answer(call.group(1), call.group(2).split(", *")), told(call.group(3)));
    }

    /** The answer that the comment behind a call begins with; none, if it is of a void method. */
    private static String told(String comment) {
        Matcher thrown = THROWS.matcher(comment);
        if (thrown.matches()) {
            return thrown.group(1);
        }
        Matcher number = NUMBER.matcher(comment);
        return number.matches() ? number.group(1) : "null";
    }

    private String answer(String name, String[] texts) throws IllegalAccessException {
        for (Method method : CacheLadder.class.getMethods()) {
            if (method.getName().equals(name)) {
                return answer(method, texts);
            }
        }
        return "no such call";
    }

    private String answer(Method method, String[] texts) throws IllegalAccessException {
        Object[] arguments = new Object[method.getParameterCount()];
        for (int i = 0; i < arguments.length; i++) {
            boolean isInt = method.getParameterTypes()[i] == int.class;
            arguments[i] = isInt ? (Object) Integer.valueOf(texts[i]) : Boolean.valueOf(texts[i]);
        }
        try {
            return String.valueOf(method.invoke(x, arguments));
        } catch (InvocationTargetException e) {
            return e.getCause().getClass().getSimpleName();
        }
    }
}
