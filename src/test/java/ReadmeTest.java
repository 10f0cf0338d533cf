import java.io.IOException;
import java.nio.file.Files;
import java.nio.file.Path;
import java.util.ArrayList;
import java.util.List;
import java.util.regex.Matcher;
import java.util.regex.Pattern;

/** The example of README.md: its calls, in its order, answer what it says behind them. */
public final class ReadmeTest {
    private static final Pattern CALL = Pattern.compile("x\\.(\\w+)\\(([^)]*)\\); +// (-?\\d+): .*");

    public static void main(String[] args) throws IOException, ReflectiveOperationException {
        Checks checks = new Checks("readme");
        SpreadParity x = new SpreadParity(1);
        List<String> lines = example();
        checks.due("the example makes an object of 1 group", lines.get(0).startsWith("SpreadParity x = new SpreadParity(1);") ? 1 : 0, 1);
        for (String line : lines.subList(1, lines.size())) {
            Matcher call = CALL.matcher(line);
            if (call.matches()) {
                checks.due(line, answer(x, call.group(1), call.group(2).split(", ")), Long.parseLong(call.group(3)));
            } else {
                checks.due("a call with its answer (1 is yes): " + line, 0, 1);
            }
        }
        checks.end();
    }

    /** The lines between the marks of the only block of Java in README.md. */
    private static List<String> example() throws IOException {
        List<String> lines = Files.readAllLines(Path.of("README.md"));
        List<String> example = new ArrayList<>();
        for (int at = lines.indexOf("```java") + 1; !lines.get(at).equals("```"); at++) {
            example.add(lines.get(at));
        }
        return example;
    }

    private static long answer(SpreadParity x, String name, String[] texts) throws ReflectiveOperationException {
        Class<?>[] types = new Class<?>[texts.length];
        Object[] numbers = new Object[texts.length];
        for (int n = 0; n < texts.length; n++) {
            types[n] = int.class;
            numbers[n] = Integer.valueOf(texts[n]);
        }
        return ((Number) SpreadParity.class.getMethod(name, types).invoke(x, numbers)).longValue();
    }
}
