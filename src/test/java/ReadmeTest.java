import java.io.IOException;
import java.lang.reflect.Method;
import java.lang.reflect.Modifier;
import java.nio.file.Files;
import java.nio.file.Path;
import java.util.regex.Matcher;
import java.util.regex.Pattern;

/** README.md: its example answers what is written behind each call, and no call is missing in its table. */
public final class ReadmeTest {
    private static final Pattern EXAMPLE = Pattern.compile("(?s)```java\n(.*?)```");
    private static final Pattern CALL = Pattern.compile("desk\\.(\\w+)\\(([^)]*)\\);(?:\\s*// (\\w+): .*)?");
    private static final String MAKING = "PoolDesk desk = new PoolDesk();";

    public static void main(String[] args) throws IOException, ReflectiveOperationException {
        String text = Files.readString(Path.of("README.md"));
        exampleAnswersAsWritten(text);
        tableHasEveryCall(text);
        Due.end();
    }

    private static void exampleAnswersAsWritten(String text) throws ReflectiveOperationException {
        Matcher example = EXAMPLE.matcher(text);
        Due.is("README has an example", example.find(), true);
        String[] lines = example.group(1).split("\n");
        Due.is("it makes an object first", lines[0].equals(MAKING), true);
        PoolDesk desk = new PoolDesk();
        for (int n = 1; n < lines.length; n++) {
            Matcher call = CALL.matcher(lines[n]);
            Due.is("a call, with its answer: " + lines[n], call.matches(), true);
            String want = call.group(3) == null ? "null" : call.group(3);
            String got = String.valueOf(answer(desk, call.group(1), call.group(2)));
            Due.is(lines[n] + " answers " + got + ", as written", got.equals(want), true);
        }
    }

    /** What a call answers, null if it answers nothing. */
    private static Object answer(PoolDesk desk, String name, String given) throws ReflectiveOperationException {
        String[] words = given.isEmpty() ? new String[0] : given.split(", ");
        for (Method one : PoolDesk.class.getMethods()) {
            if (one.getName().equals(name) && one.getParameterCount() == words.length) {
                return one.invoke(desk, numbers(one, words));
            }
        }
        throw new NoSuchMethodException(name);
    }

    private static Object[] numbers(Method method, String[] words) {
        Object[] numbers = new Object[words.length];
        for (int n = 0; n < words.length; n++) {
            boolean isLong = method.getParameterTypes()[n] == long.class;
            // Not by ?: , which would make a long of both.
            if (isLong) {
                numbers[n] = Long.valueOf(words[n]);
            } else {
                numbers[n] = Integer.valueOf(words[n]);
            }
        }
        return numbers;
    }

    private static void tableHasEveryCall(String text) {
        for (Method one : PoolDesk.class.getDeclaredMethods()) {
            if (Modifier.isPublic(one.getModifiers())) {
                Due.is("the table has " + one.getName(), text.contains("\n| `" + one.getName() + "("), true);
            }
        }
    }
}
