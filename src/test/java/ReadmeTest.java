import java.io.IOException;
import java.lang.reflect.InvocationTargetException;
import java.lang.reflect.Method;
import java.nio.file.Files;
import java.nio.file.Path;
import java.util.regex.Matcher;
import java.util.regex.Pattern;

/** The example of README.md: each of its calls answers what stands behind it there. */
public final class ReadmeTest {
    private static final Pattern CALL = Pattern.compile("house\\.(\\w+)\\(([^)]*)\\); *(?:// *(-?\\d+)?.*)?");

    public static void main(String[] args) throws IOException, ReflectiveOperationException {
        MailHouse house = new MailHouse();
        int calls = 0;
        for (String line : Files.readAllLines(Path.of("README.md"))) {
            Matcher call = CALL.matcher(line);
            if (call.matches()) {
                Object got = answer(house, call.group(1), call.group(2).split(", *"));
                House.due(line, got == null ? "nothing" : got.toString(), got == null ? "nothing" : call.group(3));
                calls++;
            }
        }
        House.due("README.md has an example of so many calls", calls > 20 ? 1 : 0, 1);
        House.close();
    }

    /** Null: the call answers nothing. */
    private static Object answer(MailHouse house, String name, String[] written) throws ReflectiveOperationException {
        int count = written[0].isEmpty() ? 0 : written.length;
        Class<?>[] ints = new Class<?>[count];
        Object[] values = new Object[count];
        for (int i = 0; i < count; i++) {
            ints[i] = int.class;
            values[i] = Integer.decode(written[i]);
        }
        Method method = MailHouse.class.getMethod(name, ints);
        try {
            return method.invoke(house, values);
        } catch (InvocationTargetException thrown) {
            return thrown.getCause().getClass().getSimpleName();
        }
    }
}
