import java.io.IOException;
import java.lang.reflect.Method;
import java.lang.reflect.Modifier;
import java.nio.file.Files;
import java.nio.file.Path;
import java.util.regex.Matcher;
import java.util.regex.Pattern;

/** What README.md says of the class: its example answers what stands behind each call, and every call is named. */
public final class ReadmeTest {
    private static final Pattern EXAMPLE = Pattern.compile("(?s)```java\n(.*?)```");
    private static final Pattern TEXT = Pattern.compile("for \\(char c : \"([^\"]*)\"\\.toCharArray\\(\\)\\) \\{");
    private static final Pattern CALL = Pattern.compile("x\\.(\\w+)\\(([^)]*)\\); *// (-?\\d+): .*");

    private final Check check = new Check("ReadmeTest");
    private final TwoWays x = new TwoWays();

    private ReadmeTest() {
    }

    public static void main(String[] args) throws IOException, ReflectiveOperationException {
        ReadmeTest t = new ReadmeTest();
        String page = Files.readString(Path.of("README.md"));
        t.example(page);
        t.everyCallIsNamed(page);
        t.check.end();
    }

    private void example(String page) throws ReflectiveOperationException {
        Matcher example = EXAMPLE.matcher(page);
        check.holds("there is an example", example.find());
        int calls = 0;
        for (String line : example.group(1).split("\n")) {
            Matcher text = TEXT.matcher(line);
            Matcher call = CALL.matcher(line);
            if (text.matches()) {
                text.group(1).chars().forEach(x::feed);
            } else if (call.matches()) {
                check.due(line, answer(call.group(1), call.group(2)), Integer.parseInt(call.group(3)));
                calls++;
            } else {
                check.holds("this line of the example is understood: " + line,
                        line.startsWith("TwoWays x = new TwoWays();") || line.startsWith("    x.feed(c);") || line.equals("}"));
            }
        }
        check.holds("the example has calls", calls > 0);
    }

    private int answer(String name, String arguments) throws ReflectiveOperationException {
        String[] told = arguments.isEmpty() ? new String[0] : arguments.split(", *");
        Class<?>[] types = new Class<?>[told.length];
        Object[] values = new Object[told.length];
        for (int i = 0; i < told.length; i++) {
            types[i] = int.class;
            values[i] = told[i].startsWith("0b") ? Integer.parseInt(told[i].substring(2).replace("_", ""), 2)
                    : Integer.parseInt(told[i]);
        }
        return (Integer) TwoWays.class.getMethod(name, types).invoke(x, values);
    }

    private void everyCallIsNamed(String page) {
        for (Method m : TwoWays.class.getDeclaredMethods()) {
            if (Modifier.isPublic(m.getModifiers())) {
                check.holds("README.md names " + m.getName(), page.contains("`" + m.getName() + "`"));
            }
        }
    }
}
