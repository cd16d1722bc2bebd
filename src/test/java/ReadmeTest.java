import java.lang.reflect.InvocationTargetException;
import java.lang.reflect.Method;
import java.util.HashMap;
import java.util.Map;
import java.util.regex.Matcher;
import java.util.regex.Pattern;

/** README.md's examples are run line by line: each call must answer what is written behind it. */
public final class ReadmeTest {
    private static final Pattern BLOCK = Pattern.compile("(?s)```java\\n(.*?)```");
    private static final Pattern NEW = Pattern.compile("TransitSteps (\\w+) = new TransitSteps\\((\\d+)\\);.*");
    private static final Pattern CALL =
            Pattern.compile("(?:int (\\w+) = )?(\\w+)\\.(\\w+)\\(([^)]*)\\);\\s*// (-?\\d+|true|false|throws \\w+)\\b.*");

    private final Map<String, TransitSteps> objects = new HashMap<>();
    private final Map<String, Integer> numbers = new HashMap<>();

    public static void main(String[] args) {
        String readme = Source.file("README.md");
        Matcher block = BLOCK.matcher(readme);
        int lines = 0;
        while (block.find()) {
            ReadmeTest example = new ReadmeTest();
            for (String line : block.group(1).split("\n")) {
                example.run(line);
                lines++;
            }
        }
        Check.yes("there are examples", lines >= 10);
        for (Method m : TransitSteps.class.getMethods()) {
            if (m.getDeclaringClass() == TransitSteps.class) {
                Check.yes(m.getName() + " stands in README.md", readme.contains("`" + m.getName() + "("));
            }
        }
        Check.end();
    }

    private void run(String line) {
        Check.sentence(line);
        Matcher made = NEW.matcher(line);
        Matcher called = CALL.matcher(line);
        if (made.matches()) {
            objects.put(made.group(1), new TransitSteps(Integer.parseInt(made.group(2))));
        } else if (called.matches() && objects.containsKey(called.group(2))) {
            String answer = answer(objects.get(called.group(2)), called.group(3), called.group(4).split(", "));
            Check.same("the call", called.group(5), answer);
            if (called.group(1) != null) {
                numbers.put(called.group(1), Integer.valueOf(answer));
            }
        } else if (!line.isBlank()) {
            Check.tell("a line that is no call with its answer behind it");
        }
    }

    private String answer(TransitSteps x, String name, String[] written) {
        Class<?>[] types = new Class<?>[written.length];
        Object[] arguments = new Object[written.length];
        for (int i = 0; i < written.length; i++) {
            types[i] = int.class;
            Integer known = numbers.get(written[i]);
            arguments[i] = known != null ? known : Integer.valueOf(written[i]);
        }
        try {
            return String.valueOf(TransitSteps.class.getMethod(name, types).invoke(x, arguments));
        } catch (InvocationTargetException e) {
            return "throws " + e.getCause().getClass().getSimpleName();
        } catch (ReflectiveOperationException e) {
            return "no such call";
        }
    }
}
