import java.io.IOException;
import java.lang.reflect.InvocationTargetException;
import java.lang.reflect.Method;
import java.nio.file.Files;
import java.nio.file.Path;
import java.util.List;
import java.util.regex.Matcher;
import java.util.regex.Pattern;
import java.util.stream.Collectors;
import java.util.stream.Stream;

/** Holds README.md against the class: its example answers as it says, and it names every call and every test. */
public final class ReadmeTest {
    private static final Pattern TEXT = Pattern.compile("String text = \"([^\"]*)\";");
    private static final Pattern CALL = Pattern.compile("(?m)^city\\.(\\w+)\\(([^)]*)\\);(?: +// (-?\\d+): \\S.*)?$");

    public static void main(String[] args) throws IOException, ReflectiveOperationException {
        String page = Files.readString(Path.of("README.md"));
        example(page);
        everyCall(page);
        everyTest(page);
        Check.finish();
    }

    private static void example(String page) throws ReflectiveOperationException {
        int from = page.indexOf("```java");
        int to = page.indexOf("```", from + 3);
        String code = from >= 0 && to > from ? page.substring(from, to) : "";
        FireLeave city = new FireLeave();
        Matcher text = TEXT.matcher(code);
        Check.due("the example has a text", text.find() ? 1 : 0, 1);
        Check.feed(city, text.group(1));
        Matcher calls = CALL.matcher(code);
        int asked = 0;
        while (calls.find()) {
            asked++;
            String told = "README.md: " + calls.group(1) + "(" + calls.group(2) + ")";
            Check.due(told + " is told with its answer", calls.group(3) == null ? 0 : 1, 1);
            if (calls.group(3) != null) {
                Check.due(told, answer(city, calls.group(1), calls.group(2)), Long.parseLong(calls.group(3)));
            }
        }
        Check.due("calls of the example", asked, code.lines().filter(line -> line.startsWith("city.")).count());
    }

    private static long answer(FireLeave city, String name, String numbers) throws ReflectiveOperationException {
        Method call = callNamed(name);
        String[] parts = numbers.isEmpty() ? new String[0] : numbers.split(", ");
        Object[] given = Stream.of(parts).map(Integer::valueOf).toArray();
        try {
            return ((Number) call.invoke(city, given)).longValue();
        } catch (InvocationTargetException e) {
            throw new AssertionError(name + "(" + numbers + ") threw", e.getCause());
        }
    }

    private static Method callNamed(String name) {
        for (Method m : FireLeave.class.getDeclaredMethods()) {
            if (m.getName().equals(name)) {
                return m;
            }
        }
        throw new AssertionError("README.md: there is no " + name + "()");
    }

    private static void everyCall(String page) {
        for (String call : Face.ofDocument().calls()) {
            String named = "`" + call.replaceAll("^\\w+ |(?:int|boolean|long) ", "") + "`";
            Check.due("README.md names " + named, page.contains(named) ? 1 : 0, 1);
        }
    }

    private static void everyTest(String page) throws IOException {
        try (Stream<Path> files = Files.list(Path.of("src/test/java"))) {
            List<String> names = files.map(f -> f.getFileName().toString()).filter(f -> f.endsWith("Test.java")).sorted()
                    .collect(Collectors.toList());
            for (String name : names) {
                String named = "`" + name.replace(".java", "") + "`";
                Check.due("README.md names " + named, page.contains(named) ? 1 : 0, 1);
            }
        }
    }
}
