import java.io.IOException;
import java.lang.reflect.InvocationTargetException;
import java.lang.reflect.Method;
import java.nio.file.Files;
import java.nio.file.Path;
import java.util.regex.Matcher;
import java.util.regex.Pattern;

/** Makes the calls of README.md's example, which is looked for in the directory that the test runs in. */
public final class ReadmeTest {
    private static final Pattern NEW = Pattern.compile("PageDrive drive = new PageDrive\\((\\d+)\\);");
    private static final Pattern CALL =
            Pattern.compile("drive\\.(\\w+)\\((.*)\\); *// (-?\\d+|throws \\w+)(: .*)?");
    private static final int FEWEST_CALLS = 5;

    public static void main(String[] args) throws IOException, IllegalAccessException {
        Check check = new Check("ReadmeTest");
        PageDrive drive = null;
        int calls = 0;
        boolean inside = false;
        for (String line : Files.readAllLines(Path.of("README.md"))) {
            if (line.startsWith("```")) {
                inside = line.equals("```java");
                continue;
            }
            if (!inside) {
                continue;
            }
            Matcher made = NEW.matcher(line);
            Matcher call = CALL.matcher(line);
            if (made.matches()) {
                drive = new PageDrive(Integer.parseInt(made.group(1)));
            } else if (call.matches() && drive != null) {
                calls++;
                check.compare(line, call.group(3), answerOf(drive, call.group(1), call.group(2).split(", *")));
            } else {
                check.compare(line, "a new object, or a call with its answer", "another line");
            }
        }
        check.compare("calls in the example", "enough", calls < FEWEST_CALLS ? "only " + calls : "enough");
        check.end();
    }

    private static String answerOf(PageDrive drive, String name, String[] texts) throws IllegalAccessException {
        for (Method method : PageDrive.class.getMethods()) {
            if (method.getName().equals(name) && method.getParameterCount() == texts.length) {
                return answerOf(drive, method, texts);
            }
        }
        return "no such call";
    }

    private static String answerOf(PageDrive drive, Method method, String[] texts) throws IllegalAccessException {
        Object[] values = new Object[texts.length];
        for (int i = 0; i < texts.length; i++) {
            values[i] = valueOf(method.getParameterTypes()[i], texts[i]);
        }
        try {
            return String.valueOf(method.invoke(drive, values));
        } catch (InvocationTargetException e) {
            return "throws " + e.getCause().getClass().getSimpleName();
        }
    }

    private static Object valueOf(Class<?> type, String text) {
        if (type == boolean.class) {
            return Boolean.valueOf(text);
        }
        long value = Long.decode(text.endsWith("L") ? text.substring(0, text.length() - 1) : text);
        return type == int.class ? (Object) Math.toIntExact(value) : (Object) value;
    }
}
