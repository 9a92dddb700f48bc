import java.io.IOException;
import java.lang.reflect.InvocationTargetException;
import java.lang.reflect.Method;
import java.nio.file.Files;
import java.nio.file.Path;
import java.util.Set;
import java.util.TreeSet;
import java.util.regex.Matcher;
import java.util.regex.Pattern;

/** README.md's lines of Java are made, one by one, and each answers what stands behind it. */
public final class ReadmeTest {
    private static final Checks CHECKS = new Checks();
    private static final Pattern CALL = Pattern.compile("x\\.(\\w+)\\((.*?)\\);\\s+// (throws \\w+|-?\\d+|true|false)\\b.*");
    private static final String[] PARTS = {"### Making it", "### Telling it a text", "### Going on", "### Asking",
        "### Undoing", "## Tests", ".ci/run"};

    public static void main(String[] args) throws IOException {
        String text = Files.readString(Path.of("README.md"));
        for (String part : PARTS) {
            CHECKS.due("README.md has '" + part + "'", text.contains(part), true);
        }
        everyTestIsTold(text);
        CHECKS.due("calls in README.md", made(text) > 20, true);
        CHECKS.close();
    }

    private static void everyTestIsTold(String text) throws IOException {
        Set<String> names = new TreeSet<>();
        try (var files = Files.list(Path.of("src/test/java"))) {
            files.forEach(file -> names.add(file.getFileName().toString().replace(".java", "")));
        }
        for (String name : names) {
            if (name.endsWith("Test")) {
                CHECKS.due("README.md tells of " + name, text.contains("`" + name + "`"), true);
            }
        }
    }

    private static int made(String text) {
        CardLoops x = null;
        boolean isJava = false;
        int calls = 0;
        for (String line : text.split("\n")) {
            if (line.startsWith("```")) {
                isJava = line.equals("```java");
            } else if (isJava && line.equals("CardLoops x = new CardLoops();")) {
                x = new CardLoops();
            } else if (isJava) {
                Matcher m = CALL.matcher(line);
                boolean isCall = m.matches();
                CHECKS.due("'" + line + "' is a call with its answer", isCall && x != null, true);
                if (isCall && x != null) {
                    CHECKS.same(line, answer(x, m.group(1), m.group(2)), m.group(3));
                    calls++;
                }
            }
        }
        return calls;
    }

    private static String answer(CardLoops x, String name, String row) {
        String[] told = row.isEmpty() ? new String[0] : row.split(", ");
        Object[] numbers = new Object[told.length];
        for (int i = 0; i < told.length; i++) {
            numbers[i] = Integer.decode(told[i]);
        }
        for (Method method : CardLoops.class.getMethods()) {
            if (method.getName().equals(name) && method.getParameterCount() == numbers.length) {
                try {
                    return String.valueOf(method.invoke(x, numbers));
                } catch (InvocationTargetException e) {
                    return "throws " + e.getCause().getClass().getSimpleName();
                } catch (IllegalAccessException e) {
                    return "is not public";
                }
            }
        }
        return "is no call";
    }
}
