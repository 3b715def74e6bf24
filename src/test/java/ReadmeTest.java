import java.io.IOException;
import java.lang.reflect.InvocationTargetException;
import java.lang.reflect.Method;
import java.lang.reflect.Modifier;
import java.nio.file.Files;
import java.nio.file.Path;
import java.util.ArrayList;
import java.util.List;
import java.util.Map;
import java.util.Set;
import java.util.TreeMap;
import java.util.TreeSet;
import java.util.regex.Matcher;
import java.util.regex.Pattern;

/** Every call of README.md's examples, read from that file, answers what it says of it. */
public final class ReadmeTest {
    private static final String NEW_OBJECT = "RationalForms x = new RationalForms();";
    private static final Pattern CALL = Pattern.compile("x\\.(\\w+)\\(([^)]*)\\);(?:\\s*//\\s*(.*))?");
    private static final Map<String, Method> METHODS = publicMethods();
    private static final Check CHECK = new Check();
    private static final Set<String> SHOWN = new TreeSet<>();

    public static void main(String[] args) throws IOException, IllegalAccessException {
        RationalForms x = null;
        for (String line : exampleLines()) {
            if (line.equals(NEW_OBJECT)) {
                x = new RationalForms();
            } else if (!line.isEmpty()) {
                runLine(x, line);
            }
        }
        CHECK.due("the methods that README.md shows", SHOWN, METHODS.keySet());
        CHECK.end();
    }

    private static List<String> exampleLines() throws IOException {
        List<String> found = new ArrayList<>();
        boolean inside = false;
        for (String line : Files.readAllLines(Path.of("README.md"))) {
            if (line.startsWith("```")) {
                inside = line.equals("```java");
            } else if (inside) {
                found.add(line.trim());
            }
        }
        return found;
    }

    private static void runLine(RationalForms x, String line) throws IllegalAccessException {
        Matcher call = CALL.matcher(line);
        boolean readable = x != null && call.matches() && METHODS.containsKey(call.group(1));
        CHECK.due("README.md's line \"" + line + "\" can be run", readable, true);
        if (!readable) {
            return;
        }
        Method method = METHODS.get(call.group(1));
        SHOWN.add(method.getName());
        Object got = answer(x, method, numbers(call.group(2)));
        // A call without an answer says just what it is for, unless it throws.
        if (got != null) {
            CHECK.due("README.md's " + line, got.toString(), told(call.group(3)));
        } else {
            CHECK.due("README.md's " + line + " throws", told(call.group(3)).startsWith("throws "), false);
        }
    }

    /** What stands before the colon. */
    private static String told(String comment) {
        return comment == null ? "" : comment.split(":", 2)[0].trim();
    }

    private static Object answer(RationalForms x, Method method, Object[] numbers) throws IllegalAccessException {
        try {
            return method.invoke(x, numbers);
        } catch (InvocationTargetException e) {
            return "throws " + e.getCause().getClass().getSimpleName();
        }
    }

    private static Object[] numbers(String text) {
        if (text.isEmpty()) {
            return new Object[0];
        }
        String[] words = text.split(",\\s*");
        Object[] numbers = new Object[words.length];
        for (int i = 0; i < words.length; i++) {
            numbers[i] = Integer.valueOf(words[i]);
        }
        return numbers;
    }

    private static Map<String, Method> publicMethods() {
        Map<String, Method> found = new TreeMap<>();
        for (Method method : RationalForms.class.getDeclaredMethods()) {
            if (Modifier.isPublic(method.getModifiers())) {
                found.put(method.getName(), method);
            }
        }
        return found;
    }
}
