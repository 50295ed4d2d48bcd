import java.io.IOException;
import java.lang.reflect.Method;
import java.nio.charset.StandardCharsets;
import java.nio.file.Files;
import java.nio.file.Path;
import java.util.Set;
import java.util.TreeSet;
import java.util.regex.Matcher;
import java.util.regex.Pattern;

/** README.md tells the truth: its example answers as it says, and it names every call and every test. */
public final class ReadmeTest {
    private static final Pattern TYPED = Pattern.compile("for \\(char c : \"([^\"]*)\"\\.toCharArray\\(\\)\\) x\\.type\\(c\\);");
    private static final Pattern CALL = Pattern.compile("x\\.(\\w+)\\(([^)]*)\\); +// (-?\\d+)\\b.*");
    private static final Check check = new Check("ReadmeTest");

    public static void main(String[] args) throws IOException, ReflectiveOperationException {
        String page = Files.readString(Path.of("README.md"), StandardCharsets.UTF_8);
        example(page);
        namesEveryCall(page);
        namesEveryTest(page);
        check.ends();
    }

    private static void example(String page) throws ReflectiveOperationException {
        int from = page.indexOf("```java\n") + "```java\n".length();
        RegretPit x = new RegretPit();
        int calls = 0;
        for (String line : page.substring(from, page.indexOf("```", from)).split("\n")) {
            Matcher typed = TYPED.matcher(line);
            Matcher call = CALL.matcher(line);
            if (typed.matches()) {
                Check.types(x, typed.group(1));
            } else if (call.matches()) {
                calls++;
                check.due(line, answer(x, call.group(1), call.group(2)), Long.parseLong(call.group(3)));
            } else {
                check.holds("a line that can be read: " + line, line.equals("RegretPit x = new RegretPit();"));
            }
        }
        check.holds("the example has calls", calls > 20);
    }

    private static long answer(RegretPit x, String name, String told) throws ReflectiveOperationException {
        String[] parts = told.isEmpty() ? new String[0] : told.split(", *");
        Class<?>[] types = new Class<?>[parts.length];
        Object[] numbers = new Object[parts.length];
        for (int i = 0; i < parts.length; i++) {
            types[i] = int.class;
            numbers[i] = Integer.parseInt(parts[i]);
        }
        Method method = RegretPit.class.getMethod(name, types);
        return ((Number) method.invoke(x, numbers)).longValue();
    }

    private static void namesEveryCall(String page) {
        Set<String> names = new TreeSet<>();
        for (Method method : RegretPit.class.getDeclaredMethods()) {
            if (java.lang.reflect.Modifier.isPublic(method.getModifiers())) {
                names.add(method.getName());
            }
        }
        for (String name : names) {
            check.holds("README.md names " + name, page.contains("`" + name + "`"));
        }
    }

    private static void namesEveryTest(String page) throws IOException {
        try (var files = Files.list(Path.of("src/test/java"))) {
            for (Path file : files.toList()) {
                String name = file.getFileName().toString().replace(".java", "");
                check.holds("README.md names " + name, !name.endsWith("Test") || page.contains("`" + name + "`"));
            }
        }
    }
}
