import java.io.IOException;
import java.lang.reflect.Method;
import java.lang.reflect.Modifier;
import java.nio.file.Files;
import java.nio.file.Path;
import java.util.regex.Matcher;
import java.util.regex.Pattern;

/** The example of README.md answers what stands behind each of its calls, and README.md tells of every call. */
final class ReadmeTest {
    private static final Pattern CALL = Pattern.compile("(?m)^x\\.(\\w+)\\(([^)]*)\\);(.*)$");
    private static final Pattern ANSWER = Pattern.compile(" *// (-?\\d+)\\b.*");

    public static void main(String[] args) throws ReflectiveOperationException, IOException {
        Check check = new Check("ReadmeTest");
        String text = Files.readString(Path.of("README.md"));
        PackDrawer x = new PackDrawer();
        Matcher call = CALL.matcher(text);
        while (call.find()) {
            Matcher answer = ANSWER.matcher(call.group(3));
            check.holds(call.group() + " has an answer", answer.matches());
            if (answer.matches()) {
                check.due(call.group(), answered(x, call.group(1), call.group(2)), Long.parseLong(answer.group(1)));
            }
        }
        for (Method m : PackDrawer.class.getDeclaredMethods()) {
            if (Modifier.isPublic(m.getModifiers())) {
                check.holds(m.getName() + " is in the example", text.contains("\nx." + m.getName() + "("));
                check.holds(m.getName() + " is told of", text.contains("`" + m.getName() + "("));
            }
        }
        check.end();
    }

    private static int answered(PackDrawer x, String name, String numbers) throws ReflectiveOperationException {
        String[] written = numbers.isEmpty() ? new String[0] : numbers.split(", ");
        Object[] values = new Object[written.length];
        Class<?>[] types = new Class<?>[written.length];
        for (int i = 0; i < written.length; i++) {
            boolean isLong = written[i].endsWith("L");
            types[i] = isLong ? long.class : int.class;
            if (isLong) {
                values[i] = Long.parseLong(written[i].substring(0, written[i].length() - 1));
            } else {
                values[i] = Integer.parseInt(written[i]);
            }
        }
        return (Integer) PackDrawer.class.getMethod(name, types).invoke(x, values);
    }
}
