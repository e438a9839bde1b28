import java.io.IOException;
import java.lang.reflect.InvocationTargetException;
import java.lang.reflect.Method;
import java.nio.file.Files;
import java.nio.file.Path;
import java.util.HashMap;
import java.util.Map;
import java.util.regex.Matcher;
import java.util.regex.Pattern;

/** The example of README.md answers as it says, and README.md names each call of the face. */
final class ReadmeTest {
    private static final Path README = Path.of("README.md");
    private static final Pattern EXAMPLE = Pattern.compile("```java\n(.*?)```", Pattern.DOTALL);
    private static final String FIRST_LINE = "TicketForge plan = new TicketForge();";
    // As in: int entry = plan.note(part, 0, 3, 8);   // 0: the rest is for the reader.
    private static final Pattern LINE =
        Pattern.compile("(?:int (\\w+) = )?plan\\.(\\w+)\\(([^)]*)\\);\\s+// (throws )?([\\w.]+): .+");

    private final TicketForge plan = new TicketForge();
    private final Map<String, Integer> variables = new HashMap<>();

    private ReadmeTest() {
    }

    public static void main(String[] args) throws IOException, IllegalAccessException {
        String readme = Files.readString(README);
        Matcher example = EXAMPLE.matcher(readme);
        Check.same("an example stands in README.md", example.find(), true);
        new ReadmeTest().run(example.group(1).split("\n"));
        for (Method each : TicketForge.class.getMethods()) {
            if (each.getDeclaringClass() == TicketForge.class) {
                Check.same(each.getName() + " is named", readme.contains('`' + each.getName() + '`'), true);
            }
        }
        Check.finish("ReadmeTest");
    }

    private void run(String[] lines) throws IllegalAccessException {
        Check.same("the first line", lines[0], FIRST_LINE);
        for (int i = 1; i < lines.length; i++) {
            Matcher line = LINE.matcher(lines[i]);
            boolean understood = line.matches();
            Check.same("a call and its answer: " + lines[i], understood, true);
            if (understood) {
                runLine(line);
            }
        }
    }

    private void runLine(Matcher line) throws IllegalAccessException {
        Object answer = call(line.group(2), line.group(3).isEmpty() ? new String[0] : line.group(3).split(", "));
        String due = line.group(4) == null ? line.group(5) : "throws." + line.group(5);
        Check.same(line.group(), String.valueOf(answer), due);
        if (line.group(1) != null && answer instanceof Integer) {
            variables.put(line.group(1), (Integer) answer);
        }
    }

    private Object call(String name, String[] arguments) throws IllegalAccessException {
        Object[] values = new Object[arguments.length];
        for (int i = 0; i < values.length; i++) {
            Integer variable = variables.get(arguments[i]);
            values[i] = variable != null ? variable : Integer.valueOf(arguments[i]);
        }
        try {
            return method(name).invoke(plan, values);
        } catch (InvocationTargetException e) {
            return "throws." + e.getCause().getClass().getSimpleName();
        }
    }

    private static Method method(String name) {
        for (Method each : TicketForge.class.getMethods()) {
            if (each.getName().equals(name)) {
                return each;
            }
        }
        throw new IllegalArgumentException("README.md calls " + name + ", which there is not");
    }
}
