import java.io.IOException;
import java.lang.reflect.InvocationTargetException;
import java.lang.reflect.Method;
import java.lang.reflect.Modifier;
import java.nio.file.Files;
import java.nio.file.Path;
import java.util.HashMap;
import java.util.Map;
import java.util.Set;
import java.util.TreeSet;
import java.util.regex.Matcher;
import java.util.regex.Pattern;

/** Makes the calls of README.md's example: each answers what its comment begins with, and no call is left out. */
public final class ReadmeTest {
    private static final Pattern EXAMPLE = Pattern.compile("(?s)```java\n(.*?)```");
    private static final Pattern CALL = Pattern.compile("(?:int (\\w+) = )?shop\\.(\\w+)\\((.*?)\\);\\s*// (-?\\w+): .+");
    private static final Pattern NO_CALL = Pattern.compile("|//.*|TwoBenches shop = new TwoBenches\\(\\);");

    private final Due due = new Due();
    private final TwoBenches shop = new TwoBenches();
    private final Map<String, Long> names = new HashMap<>(Map.of(
            "BAD", -1L, "FULL", -2L, "NONE", -3L, "RING", -4L));
    private final Set<String> used = new TreeSet<>();

    public static void main(String[] args) throws IOException, ReflectiveOperationException {
        new ReadmeTest().read(Files.readString(Path.of("README.md")));
    }

    private void read(String text) throws ReflectiveOperationException {
        Matcher example = EXAMPLE.matcher(text);
        due.holds("README.md has an example", example.find());
        for (String line : example.group(1).split("\n")) {
            Matcher call = CALL.matcher(line);
            if (call.matches()) {
                make(call);
            } else {
                due.holds("a call with its answer: " + line, NO_CALL.matcher(line).matches());
            }
        }
        for (Method method : TwoBenches.class.getDeclaredMethods()) {
            boolean shown = used.contains(method.getName()) || !isPublic(method);
            due.holds("the example shows " + method.getName(), shown);
        }
        due.end();
    }

    private void make(Matcher call) throws ReflectiveOperationException {
        String[] words = call.group(3).isEmpty() ? new String[0] : call.group(3).split(", ");
        Object[] numbers = new Object[words.length];
        Method method = methodOf(call.group(2));
        for (int k = 0; k < words.length; k++) {
            boolean isLong = method.getParameterTypes()[k] == long.class;
            numbers[k] = isLong ? (Object) numberOf(words[k]) : (Object) (int) numberOf(words[k]);
        }
        long answer = answerOf(method, numbers);
        due.is(call.group(), answer, numberOf(call.group(4)));
        used.add(call.group(2));
        if (call.group(1) != null) {
            names.put(call.group(1), answer);
        }
    }

    private long answerOf(Method method, Object[] numbers) throws IllegalAccessException, InvocationTargetException {
        return ((Number) method.invoke(shop, numbers)).longValue();
    }

    private long numberOf(String word) {
        return names.containsKey(word) ? names.get(word) : Long.parseLong(word);
    }

    private static Method methodOf(String name) throws NoSuchMethodException {
        for (Method method : TwoBenches.class.getDeclaredMethods()) {
            if (method.getName().equals(name) && isPublic(method)) {
                return method;
            }
        }
        throw new NoSuchMethodException(name);
    }

    private static boolean isPublic(Method method) {
        return Modifier.isPublic(method.getModifiers());
    }
}
