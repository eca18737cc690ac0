import java.io.IOException;
import java.lang.reflect.InvocationTargetException;
import java.lang.reflect.Method;
import java.lang.reflect.Modifier;
import java.nio.file.Files;
import java.nio.file.Path;
import java.util.Arrays;
import java.util.regex.Matcher;
import java.util.regex.Pattern;

/** README.md's run of calls answers as it says there, and it names every call and every test. */
public final class ReadmeChecks extends Checking {
    private static final Pattern TEXT = Pattern.compile("^tell\\(x, \"(.*)\"\\);$");
    private static final Pattern CALL = Pattern.compile("^x\\.(\\w+)\\(([-\\d, ]*)\\); +// (throws \\w+|-?\\w+).*$");
    private static final int DUE_CALLS = 17;

    private static String answerOf(GlassVows x, String name, String numbers) throws IllegalAccessException {
        Object[] arguments = numbers.isBlank() ? new Object[0]
                : Arrays.stream(numbers.split(",")).map(s -> Integer.valueOf(s.trim())).toArray();
        for (Method m : GlassVows.class.getDeclaredMethods()) {
            if (m.getName().equals(name) && m.getParameterCount() == arguments.length) {
                try {
                    return String.valueOf(m.invoke(x, arguments));
                } catch (InvocationTargetException e) {
                    return "throws " + e.getCause().getClass().getSimpleName();
                }
            }
        }
        return "no such call";
    }

    private static void runOfCalls(String readme) throws IllegalAccessException {
        GlassVows x = new GlassVows();
        int calls = 0;
        for (String line : readme.split("\n")) {
            Matcher text = TEXT.matcher(line);
            Matcher call = CALL.matcher(line);
            if (text.matches()) {
                tell(x, text.group(1));
            } else if (call.matches()) {
                due(line, answerOf(x, call.group(1), call.group(2)), call.group(3));
                calls++;
            } else {
                due("a line that is read: " + line, line.startsWith("x.") || line.startsWith("tell("), false);
            }
        }
        due("calls in README.md", calls, DUE_CALLS);
    }

    private static void namesAll(String readme) throws IOException {
        for (Method m : GlassVows.class.getDeclaredMethods()) {
            if (Modifier.isPublic(m.getModifiers())) {
                due("README.md names " + m.getName(), readme.contains("`" + m.getName() + "`"), true);
            }
        }
        try (var tests = Files.list(Path.of("src", "test", "java"))) {
            tests.map(path -> path.getFileName().toString()).forEach(
                    name -> due("README.md names " + name, readme.contains(name), true));
        }
    }

    public static void main(String[] args) throws IOException, IllegalAccessException {
        String readme = Files.readString(Path.of("README.md"));
        runOfCalls(readme);
        namesAll(readme);
        finish("ReadmeChecks");
    }
}
