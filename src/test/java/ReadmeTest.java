import java.io.IOException;
import java.lang.reflect.Method;
import java.lang.reflect.Modifier;
import java.nio.charset.StandardCharsets;
import java.nio.file.Files;
import java.nio.file.Path;
import java.util.Map;
import java.util.TreeMap;
import java.util.regex.Matcher;
import java.util.regex.Pattern;

/** README.md: its example answers what it says there, and its table tells every call of the face. */
public final class ReadmeTest {
    private static final Pattern EXAMPLE = Pattern.compile("(?s)```java\n(.*?)```");
    private static final Pattern TEXT = Pattern.compile("String text = \"([^\"]*)\";");
    private static final Pattern CALL = Pattern.compile("(?m)^x\\.(\\w+)\\(([^)]*)\\); +// (-?\\d+)\\b");
    private static final Pattern ROW = Pattern.compile("(?m)^\\| `(\\w+)\\(([^)]*)\\)` \\|");

    private static final Map<String, Method> METHODS = new TreeMap<>();
    private static int wrong = 0;

    public static void main(String[] args) throws IOException, ReflectiveOperationException {
        for (Method m : TentBearers.class.getDeclaredMethods()) {
            if (Modifier.isPublic(m.getModifiers())) {
                METHODS.put(m.getName(), m);
            }
        }
        String readme = Files.readString(Path.of("README.md"), StandardCharsets.UTF_8);
        int calls = followExample(readme);
        int rows = readTable(readme);
        System.out.println(calls + " calls of the example, " + rows + " of the table, " + wrong + " not as due");
        if (wrong != 0) {
            System.exit(1);
        }
    }

    private static void check(boolean holds, String what) {
        if (!holds) {
            wrong++;
            System.out.println(what);
        }
    }

    private static int followExample(String readme) throws ReflectiveOperationException {
        Matcher block = EXAMPLE.matcher(readme);
        check(block.find(), "there is no example");
        String example = wrong == 0 ? block.group(1) : "";
        Matcher text = TEXT.matcher(example);
        check(text.find(), "the example tells no text");
        TentBearers x = new TentBearers();
        String told = wrong == 0 ? text.group(1) : "";
        for (int i = 0; i < told.length(); i++) {
            x.type(told.charAt(i));
        }
        int calls = 0;
        Matcher call = CALL.matcher(example);
        while (call.find()) {
            calls++;
            long answer = ((Number) METHODS.get(call.group(1)).invoke(x, numbers(call.group(2)))).longValue();
            check(answer == Long.parseLong(call.group(3)), call.group() + ": the answer is " + answer);
        }
        long lines = example.lines().filter(line -> line.startsWith("x.")).count();
        check(calls > 0 && calls == lines, "of " + lines + " calls in the example, " + calls + " say their answer");
        return calls;
    }

    private static Object[] numbers(String arguments) {
        if (arguments.isEmpty()) {
            return new Object[0];
        }
        String[] parts = arguments.split(", ");
        Object[] numbers = new Object[parts.length];
        for (int i = 0; i < parts.length; i++) {
            numbers[i] = Integer.valueOf(parts[i]);
        }
        return numbers;
    }

    private static int readTable(String readme) {
        Map<String, Integer> rows = new TreeMap<>();
        Matcher row = ROW.matcher(readme);
        while (row.find()) {
            int many = row.group(2).isEmpty() ? 0 : row.group(2).split(", ").length;
            check(rows.put(row.group(1), many) == null, row.group(1) + " stands in the table twice");
        }
        Map<String, Integer> due = new TreeMap<>();
        METHODS.forEach((name, method) -> due.put(name, method.getParameterCount()));
        check(rows.equals(due), "the table has " + rows + ", the face " + due);
        return rows.size();
    }
}
