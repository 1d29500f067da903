import java.lang.reflect.Method;
import java.lang.reflect.Modifier;
import java.nio.charset.StandardCharsets;
import java.nio.file.Files;
import java.nio.file.Path;
import java.util.List;
import java.util.regex.Matcher;
import java.util.regex.Pattern;
import java.util.stream.Collectors;
import java.util.stream.Stream;

/** README.md: its example answers as it says, it names every call and every test. Run from the project's root. */
public final class ReadmeTests extends Answers {
    private static final Pattern CALL = Pattern.compile("town\\.(\\w+)\\(([^)]*)\\);\\s*// (-?\\d+)\\b.*");

    public static void main(String[] args) throws Exception {
        String readme = Files.readString(Path.of("README.md"), StandardCharsets.UTF_8);
        example(readme);
        callsAreNamed(readme);
        testsAreNamed(readme);
        end();
    }

    private static void example(String readme) throws Exception {
        TiedToTown town = new TiedToTown();
        int calls = 0;
        for (String line : readme.split("\n")) {
            Matcher call = CALL.matcher(line);
            if (call.matches()) {
                calls++;
                due(line.trim(), answer(town, call.group(1), call.group(2)), Integer.parseInt(call.group(3)));
            } else if (line.startsWith("town.")) {
                fail("no answer told: " + line);
            }
        }
        if (calls < 10) {
            fail("the example has " + calls + " calls");
        }
    }

    private static int answer(TiedToTown town, String name, String told) throws Exception {
        String[] numbers = told.isBlank() ? new String[0] : told.split(",");
        for (Method m : TiedToTown.class.getDeclaredMethods()) {
            if (m.getName().equals(name) && m.getParameterCount() == numbers.length) {
                Object[] given = new Object[numbers.length];
                for (int i = 0; i < given.length; i++) {
                    given[i] = number(numbers[i].trim(), m.getParameterTypes()[i]);
                }
                return (Integer) m.invoke(town, given);
            }
        }
        fail("no call " + name);
        return 0;
    }

    private static Object number(String figures, Class<?> type) {
        long value = Long.decode(figures.replace("L", ""));
        if (type == long.class) {
            return value;
        }
        return (int) value;
    }

    private static void callsAreNamed(String readme) {
        for (Method m : TiedToTown.class.getDeclaredMethods()) {
            boolean named = readme.contains("`" + m.getName() + "(");
            if (Modifier.isPublic(m.getModifiers()) && !named) {
                fail("README.md does not name " + m.getName());
            }
        }
    }

    private static void testsAreNamed(String readme) throws Exception {
        List<String> tests;
        try (Stream<Path> files = Files.list(Path.of("src/test/java"))) {
            tests = files.map(p -> p.getFileName().toString()).sorted().collect(Collectors.toList());
        }
        for (String test : tests) {
            if (!readme.contains(test)) {
                fail("README.md does not name " + test);
            }
        }
        Matcher named = Pattern.compile("src/test/java/(\\w+\\.java)").matcher(readme);
        while (named.find()) {
            if (!tests.contains(named.group(1))) {
                fail("there is no " + named.group(1));
            }
        }
    }
}
