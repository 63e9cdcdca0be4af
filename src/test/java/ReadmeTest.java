import java.io.IOException;
import java.lang.reflect.Constructor;
import java.lang.reflect.InvocationTargetException;
import java.lang.reflect.Method;
import java.nio.file.Files;
import java.nio.file.Path;
import java.util.HashMap;
import java.util.List;
import java.util.Map;
import java.util.Set;
import java.util.TreeSet;
import java.util.regex.Matcher;
import java.util.regex.Pattern;

/** Puts the calls of README.md's example to a watch: each must answer what is told behind it. */
public final class ReadmeTest {
    private static final Path README = Path.of("README.md");
    private static final String MADE = "CartelWatch watch = new CartelWatch();";
    private static final Pattern CALL = Pattern.compile(
            "(?:int (\\w+) = )?watch\\.(\\w+)\\(([^)]*)\\); +// ((?:throws )?[^ ,:]+)(?:[,:] .*)?");

    private final CartelWatch watch = new CartelWatch();
    private final Map<String, Integer> variables = new HashMap<>();
    private final Set<String> called = new TreeSet<>();

    public static void main(String[] args) throws IOException, ReflectiveOperationException {
        String text = Files.readString(README);
        new ReadmeTest().example(text);
        everyCallIsTold(text);
        Checks.end();
    }

    private static Set<String> namesOfFace() {
        Set<String> names = new TreeSet<>();
        for (Method method : CartelWatch.class.getMethods()) {
            if (method.getDeclaringClass() == CartelWatch.class) {
                names.add(method.getName());
            }
        }
        return names;
    }

    /** The table of calls has a row for each method, with as many arguments as the method takes. */
    private static void everyCallIsTold(String text) {
        for (Method method : CartelWatch.class.getMethods()) {
            if (method.getDeclaringClass() == CartelWatch.class) {
                int count = method.getParameterCount();
                String arguments = count == 0 ? "" : "\\w+(, \\w+){" + (count - 1) + "}";
                Pattern row = Pattern.compile("(?m)^\\| `" + method.getName() + "\\(" + arguments + "\\)` \\|");
                Checks.same("README.md has a row for " + method.getName(), row.matcher(text).find(), true);
            }
        }
        for (Constructor<?> made : CartelWatch.class.getConstructors()) {
            Checks.same("README.md tells how a watch is made", text.contains("`new " + made.getName() + "()`"), true);
        }
        Checks.same("README.md tells for how many calls", text.contains("at most " + Watched.CALLS + " calls"), true);
    }

    private void example(String text) throws ReflectiveOperationException {
        Matcher block = Pattern.compile("```java\n(.*?)```", Pattern.DOTALL).matcher(text);
        Checks.same("README.md has an example", block.find(), true);
        List<String> lines = block.group(1).lines().toList();
        Checks.same("how the example begins", lines.get(0), MADE);
        for (String line : lines.subList(1, lines.size())) {
            call(line);
        }
        Checks.same("calls of the example", called.toString(), namesOfFace().toString());
    }

    private void call(String line) throws ReflectiveOperationException {
        Matcher parts = CALL.matcher(line);
        if (!parts.matches()) {
            throw new AssertionError("not a call with its answer: " + line);
        }
        Method method = methodNamed(parts.group(2));
        Object answer;
        try {
            answer = method.invoke(watch, valuesOf(parts.group(3)));
        } catch (InvocationTargetException e) {
            answer = "throws " + e.getCause().getClass().getSimpleName();
        }
        Checks.same(line, answer.toString(), parts.group(4));
        called.add(method.getName());
        if (parts.group(1) != null && answer instanceof Integer number) {
            variables.put(parts.group(1), number);
        }
    }

    private static Method methodNamed(String name) throws NoSuchMethodException {
        for (Method method : CartelWatch.class.getMethods()) {
            if (method.getName().equals(name)) {
                return method;
            }
        }
        throw new NoSuchMethodException(name);
    }

    private Object[] valuesOf(String text) {
        if (text.isEmpty()) {
            return new Object[0];
        }
        String[] words = text.split(", ");
        Object[] values = new Object[words.length];
        for (int i = 0; i < words.length; i++) {
            values[i] = variables.containsKey(words[i]) ? variables.get(words[i]) : Integer.valueOf(words[i]);
        }
        return values;
    }
}
