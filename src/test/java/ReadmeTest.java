import java.io.IOException;
import java.lang.reflect.Method;
import java.lang.reflect.Modifier;
import java.nio.charset.StandardCharsets;
import java.nio.file.Files;
import java.nio.file.Path;
import java.util.Arrays;
import java.util.regex.Matcher;
import java.util.regex.Pattern;

/** README.md is what a user goes by: its example must answer as it says, and no call be left out. */
public final class ReadmeTest {
    private static final Pattern TEXT = Pattern.compile("String text = \"([^\"]*)\";");
    private static final Pattern CALL = Pattern.compile("(?m)^x\\.(\\w+)\\(([-0-9, ]*)\\);\\s*// (-?\\d+)\\b");

    private final Checks checks = new Checks();
    private final String readme;

    private ReadmeTest(String readme) {
        this.readme = readme;
    }

    public static void main(String[] args) throws IOException, ReflectiveOperationException {
        ReadmeTest t = new ReadmeTest(Files.readString(Path.of("README.md"), StandardCharsets.UTF_8));
        t.example();
        t.everyCallIsTold();
        t.checks.end("ReadmeTest");
    }

    private void example() throws ReflectiveOperationException {
        Matcher text = TEXT.matcher(readme);
        checks.isTrue("there is a text", text.find());
        SneakPaths x = new SneakPaths();
        Checks.type(x, text.group(1));
        Matcher call = CALL.matcher(readme);
        int calls = 0;
        while (call.find()) {
            calls++;
            checks.due(call.group(), answer(x, call.group(1), call.group(2)), Integer.parseInt(call.group(3)));
        }
        long lines = readme.lines().filter(line -> line.startsWith("x.")).count();
        checks.due("each line of the example tells its answer", calls, lines);
        checks.isTrue("there is an example", calls > 0);
    }

    private static int answer(SneakPaths x, String name, String numbers) throws ReflectiveOperationException {
        Object[] values = numbers.isBlank() ? new Object[0]
                : Arrays.stream(numbers.split(",")).map(n -> Integer.valueOf(n.trim())).toArray();
        Class<?>[] types = new Class<?>[values.length];
        Arrays.fill(types, int.class);
        return (Integer) SneakPaths.class.getMethod(name, types).invoke(x, values);
    }

    private void everyCallIsTold() {
        for (Method m : SneakPaths.class.getDeclaredMethods()) {
            if (Modifier.isPublic(m.getModifiers())) {
                checks.isTrue("README.md tells of " + m.getName(), isTold(m.getName(), m.getParameterCount()));
            }
        }
    }

    /** Whether the page writes this call, with as many names between its brackets as it takes. */
    private boolean isTold(String name, int parameters) {
        String inside = parameters == 0 ? "" : "\\w+" + ", \\w+".repeat(parameters - 1);
        return Pattern.compile("`" + name + "\\(" + inside + "\\)`").matcher(readme).find();
    }
}
