import java.io.IOException;
import java.lang.reflect.InvocationTargetException;
import java.lang.reflect.Method;
import java.nio.file.Files;
import java.nio.file.Path;
import java.util.Arrays;
import java.util.regex.Matcher;
import java.util.regex.Pattern;

/** The calls in README.md answer what README.md says. */
public final class ReadmeTest {
    private static final Pattern CALL = Pattern.compile("x\\.(\\w+)\\(([^)]*)\\); +// (-?\\d+|true|false)\\b.*");
    private static final Pattern TEXT = Pattern.compile("text\\(x, \"([^\"]*)\"\\);.*");
    private static final int CALLS_LEAST = 30;

    public static void main(String[] args) throws IOException, ReflectiveOperationException {
        PeriodTables x = new PeriodTables();
        int calls = 0;
        for (String line : Files.readAllLines(Path.of("README.md"))) {
            Matcher call = CALL.matcher(line);
            Matcher text = TEXT.matcher(line);
            if (call.matches()) {
                String due = call.group(3);
                Due.is(line, due.equals("true") ? 1 : due.equals("false") ? 0 : Long.parseLong(due),
                        answer(x, call.group(1), call.group(2)));
                calls++;
            } else if (text.matches()) {
                Due.text(x, text.group(1));
            } else {
                Due.is("a call without an answer: " + line, false, line.startsWith("x."));
            }
        }
        Due.is("calls in README.md: " + calls, true, calls >= CALLS_LEAST);
        Due.finish("ReadmeTest");
    }

    private static long answer(PeriodTables x, String name, String arguments)
            throws IllegalAccessException, InvocationTargetException {
        Object[] given = arguments.isEmpty() ? new Object[0]
                : Arrays.stream(arguments.split(", ")).map(Integer::decode).toArray();
        for (Method method : PeriodTables.class.getDeclaredMethods()) {
            if (method.getName().equals(name) && method.getParameterCount() == given.length) {
                Object got = method.invoke(x, given);
                return got instanceof Boolean so ? so ? 1 : 0 : ((Number) got).longValue();
            }
        }
        throw new IllegalArgumentException("README.md has a call that is none: " + name + "(" + arguments + ")");
    }
}
