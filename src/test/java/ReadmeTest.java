import java.io.IOException;
import java.lang.reflect.Method;
import java.lang.reflect.Modifier;
import java.nio.file.Files;
import java.nio.file.Path;
import java.util.regex.Matcher;
import java.util.regex.Pattern;

/** README.md: its calls, led one after another on one object, answer as it tells; its tables name every call. */
public final class ReadmeTest {
    private static final Due D = new Due();
    private static final Pattern CALL = Pattern.compile("(?m)^x\\.(\\w+)\\(([^)]*)\\);(.*)$");
    private static final Pattern ANSWER = Pattern.compile(" +// (-?\\d+): .+");

    public static void main(String[] args) throws IOException, ReflectiveOperationException {
        String readme = Files.readString(Path.of("README.md"));
        calls(readme);
        everyCall(readme);
        everyTest(readme);
        D.end();
    }

    private static void calls(String readme) throws ReflectiveOperationException {
        OverHill x = new OverHill();
        Matcher calls = CALL.matcher(readme);
        int led = 0;
        while (calls.find()) {
            String call = calls.group(1) + "(" + calls.group(2) + ")";
            Matcher answer = ANSWER.matcher(calls.group(3));
            D.holds("README tells what " + call + " answers: " + calls.group(3), answer.matches());
            long want = answer.matches() ? Long.parseLong(answer.group(1)) : 0;
            D.due(call, lead(x, calls.group(1), calls.group(2)), want);
            led++;
        }
        D.holds("README has calls", led > 0);
    }

    private static long lead(OverHill x, String name, String told) throws ReflectiveOperationException {
        for (Method m : OverHill.class.getMethods()) {
            if (m.getDeclaringClass() == OverHill.class && m.getName().equals(name)) {
                return ((Number) m.invoke(x, numbers(m, told))).longValue();
            }
        }
        throw new IllegalArgumentException("no such call: " + name);
    }

    private static Object[] numbers(Method m, String told) {
        String[] texts = told.isEmpty() ? new String[0] : told.split(", ");
        Object[] numbers = new Object[texts.length];
        for (int i = 0; i < texts.length; i++) {
            long number = Long.decode(texts[i]);
            if (m.getParameterTypes()[i] == long.class) {
                numbers[i] = number;
            } else {
                numbers[i] = (int) number;
            }
        }
        return numbers;
    }

    private static void everyCall(String readme) {
        for (Method m : OverHill.class.getDeclaredMethods()) {
            if (Modifier.isPublic(m.getModifiers())) {
                D.holds("README's table names " + m.getName(),
                        Pattern.compile("(?m)^\\| .*`" + m.getName() + "`.* \\|$").matcher(readme).find());
            }
        }
    }

    private static void everyTest(String readme) throws IOException {
        try (var files = Files.list(Path.of("src/test/java"))) {
            for (Path file : (Iterable<Path>) files::iterator) {
                String name = file.getFileName().toString().replace(".java", "");
                D.holds("README names " + name, readme.contains("`" + name + "`"));
            }
        }
    }
}
