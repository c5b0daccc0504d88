import java.io.IOException;
import java.lang.reflect.Method;
import java.nio.file.Files;
import java.nio.file.Path;
import java.util.Set;
import java.util.TreeSet;
import java.util.regex.Matcher;
import java.util.regex.Pattern;

/** README.md: the example answers what its comments begin with; the page names every call and every test. It is run where README.md is. */
public final class ReadmeTest {
    private static final Pattern CALL = Pattern.compile("(?m)^x\\.(\\w+)\\(([-0-9, ]*)\\); +// (-?[0-9]+)");

    public static void main(String[] args) throws Exception {
        String page = Files.readString(Path.of("README.md"));
        int start = page.indexOf("```java");
        theExample(page.substring(start, page.indexOf("```", start + 3)));
        theCalls(page);
        theTests(page);
        Checks.end();
    }

    private static void theExample(String code) throws ReflectiveOperationException {
        StringBuilder text = new StringBuilder();
        Matcher parts = Pattern.compile("\"([^\"]*)\"").matcher(code);
        while (parts.find()) text.append(parts.group(1));
        CarryFirst x = new CarryFirst();
        Checks.type(x, text.toString());
        Matcher m = CALL.matcher(code);
        int calls = 0;
        while (m.find()) {
            calls++;
            String[] numbers = m.group(2).isEmpty() ? new String[0] : m.group(2).split(", *");
            Checks.due("README: " + m.group(1) + "(" + m.group(2) + ")", call(x, m.group(1), numbers), Long.parseLong(m.group(3)));
        }
        Checks.due("calls in README", calls, code.lines().filter(line -> line.startsWith("x.")).count());
        Checks.due("no calls in README", calls == 0 ? 1 : 0, 0);
    }

    /** A call that takes ints alone. */
    private static long call(CarryFirst x, String name, String[] numbers) throws ReflectiveOperationException {
        Class<?>[] types = new Class<?>[numbers.length];
        Object[] values = new Object[numbers.length];
        for (int i = 0; i < numbers.length; i++) {
            types[i] = int.class;
            values[i] = Integer.parseInt(numbers[i]);
        }
        return ((Number) CarryFirst.class.getDeclaredMethod(name, types).invoke(x, values)).longValue();
    }

    private static void theCalls(String page) {
        Set<String> missing = new TreeSet<>();
        for (Method m : CarryFirst.class.getDeclaredMethods()) {
            if (java.lang.reflect.Modifier.isPublic(m.getModifiers()) && !page.contains("`" + m.getName() + "`")) missing.add(m.getName());
        }
        Checks.due("calls that README leaves out: " + missing, missing.size(), 0);
    }

    private static void theTests(String page) throws IOException {
        try (var files = Files.list(Path.of("src/test/java"))) {
            files.map(file -> file.getFileName().toString()).filter(name -> name.endsWith("Test.java")).forEach(name -> {
                String test = name.substring(0, name.length() - 5);
                Checks.due("a test that README leaves out: " + test, page.contains(test) ? 0 : 1, 0);
            });
        }
    }
}
