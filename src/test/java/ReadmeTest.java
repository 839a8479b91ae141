import java.io.IOException;
import java.lang.reflect.Method;
import java.lang.reflect.Modifier;
import java.nio.file.Files;
import java.nio.file.Path;
import java.util.regex.Matcher;
import java.util.regex.Pattern;

/** README.md must not tell what the class does not do: its example is run, and its table of calls compared. */
public final class ReadmeTest {
    private static final Pattern CALL = Pattern.compile("house\\.(\\w+)\\(([-0-9, ]+)\\); +// (true|false|-?[0-9]+): .*");
    private static final Pattern ROW = Pattern.compile("\\| `(boolean|int) (\\w+)\\(([^)]*)\\)` \\| .+ \\|");

    public static void main(String[] args) throws IOException {
        String[] lines = Files.readString(Path.of("README.md")).split("\n");
        theExample(lines);
        theTable(lines);
        Due.end("ReadmeTest");
    }

    private static void theExample(String[] lines) {
        ActHouse house = new ActHouse();
        int calls = 0;
        for (String line : lines) {
            if (!line.startsWith("house.")) {
                continue;
            }
            Matcher matcher = CALL.matcher(line);
            Due.same("'" + line + "' tells a call and its answer", matcher.matches(), true);
            if (matcher.matches()) {
                calls++;
                int[] given = threeNumbers(matcher.group(2));
                Call call = new Call(matcher.group(1), given[0], given[1], given[2]);
                Due.same(line, call.on(house), numberOf(matcher.group(3)));
            }
        }
        Due.same("the example has calls", calls > 0, true);
    }

    private static int[] threeNumbers(String text) {
        String[] parts = text.split(", ");
        int[] numbers = new int[3];
        for (int i = 0; i < parts.length && i < 3; i++) {
            numbers[i] = Integer.parseInt(parts[i]);
        }
        return numbers;
    }

    private static long numberOf(String answer) {
        return answer.equals("true") ? 1 : answer.equals("false") ? 0 : Long.parseLong(answer);
    }

    private static void theTable(String[] lines) {
        int open = 0;
        for (Method method : ActHouse.class.getDeclaredMethods()) {
            if (Modifier.isPublic(method.getModifiers())) {
                open++;
                Due.same("rows of " + method.getName(), rowsOf(lines, method), 1);
            }
        }
        int rows = 0;
        for (String line : lines) {
            rows += ROW.matcher(line).matches() ? 1 : 0;
        }
        Due.same("rows of the table of calls", rows, open);
    }

    private static int rowsOf(String[] lines, Method method) {
        int rows = 0;
        for (String line : lines) {
            Matcher matcher = ROW.matcher(line);
            if (matcher.matches() && matcher.group(1).equals(method.getReturnType().getName())
                && matcher.group(2).equals(method.getName())
                && matcher.group(3).split(", ").length == method.getParameterCount()) {
                rows++;
            }
        }
        return rows;
    }
}
