import java.lang.reflect.InvocationTargetException;
import java.lang.reflect.Method;
import java.nio.file.Files;
import java.nio.file.Path;
import java.util.regex.Matcher;
import java.util.regex.Pattern;

/** The rows of README.md's examples: each call answers, or throws, what the page says behind it. */
public final class ReadmeTest {
    private static final Pattern NEW = Pattern.compile("MiddleUnseen x = new MiddleUnseen\\(\\);");
    private static final Pattern TEXT = Pattern.compile("Due\\.(scene|task|law)\\(x, \"(.*)\"\\); *// (\\S+)");
    private static final Pattern CALL = Pattern.compile("x\\.(\\w+)\\((.*)\\); *// (.+)");

    private static MiddleUnseen x = new MiddleUnseen();
    private static int rows = 0;

    public static void main(String[] args) throws Exception {
        boolean code = false;
        for (String line : Files.readAllLines(Path.of(System.getProperty("project", "."), "README.md"))) {
            if (line.startsWith("```")) {
                code = line.equals("```java");
            } else if (code && !line.startsWith("//")) {
                row(line);
            }
        }
        Due.is("rows of the examples are there", rows > 50, true);
        Due.end("ReadmeTest");
    }

    private static void row(String line) throws Exception {
        Matcher text = TEXT.matcher(line);
        Matcher call = CALL.matcher(line);
        if (NEW.matcher(line).matches()) {
            x = new MiddleUnseen();
        } else if (text.matches()) {
            rows++;
            Due.is(line, read(text.group(1), text.group(2)), Integer.parseInt(text.group(3)));
        } else if (call.matches()) {
            rows++;
            String got = answer(call.group(1), call.group(2).isEmpty() ? new String[0] : call.group(2).split(", "));
            Due.is(line + " (answered " + got + ")", got.equals(call.group(3)), true);
        } else {
            Due.is("can't be run: " + line, false, true);
        }
    }

    private static int read(String kind, String text) {
        return kind.equals("scene") ? Due.scene(x, text) : kind.equals("task") ? Due.task(x, text) : Due.law(x, text);
    }

    private static String answer(String name, String[] told) throws Exception {
        for (Method m : MiddleUnseen.class.getMethods()) {
            if (m.getName().equals(name) && m.getParameterCount() == told.length) {
                Object[] args = new Object[told.length];
                for (int k = 0; k < told.length; k++) {
                    args[k] = m.getParameterTypes()[k] == boolean.class ? (Object) Boolean.valueOf(told[k])
                            : Integer.decode(told[k]);
                }
                try {
                    return String.valueOf(m.invoke(x, args));
                } catch (InvocationTargetException e) {
                    return "throws " + e.getCause().getClass().getSimpleName();
                }
            }
        }
        return "no such call";
    }
}
