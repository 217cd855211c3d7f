import java.lang.reflect.Constructor;
import java.lang.reflect.Method;
import java.lang.reflect.Modifier;
import java.nio.file.Files;
import java.nio.file.Path;
import java.util.Set;
import java.util.TreeSet;
import java.util.regex.Matcher;
import java.util.regex.Pattern;

/**
 * Makes the calls of README.md's example, line by line, and compares each answer with the one that stands behind it; a
 * line that it can't read is a fault, so that nothing in the example goes unheld.
 */
public final class ReadmeTest {
    private static final Due DUE = new Due("ReadmeTest");
    private static final Pattern EXAMPLE = Pattern.compile("(?s)```java\n(.*?)```");
    private static final Pattern MADE = Pattern.compile("CommitShards store = new CommitShards\\((.*?)\\);");
    private static final Pattern CALL = Pattern.compile("store\\.(\\w+)\\((.*?)\\); +// (-?\\d+)(: .*)?");
    private static final int MOST_CALLS = 512;

    private CommitShards store;
    private int calls;

    public static void main(String[] args) throws ReflectiveOperationException, java.io.IOException {
        String readme = Files.readString(Path.of("README.md"));
        Matcher examples = EXAMPLE.matcher(readme);
        int found = 0;
        while (examples.find()) {
            found++;
            new ReadmeTest().run(examples.group(1));
        }
        DUE.be(1, found, "how many examples");
        table(readme);
        DUE.end();
    }

    private void run(String example) throws ReflectiveOperationException {
        for (String line : example.split("\n")) {
            if (!line.isEmpty() && !line.startsWith("//")) {
                step(line);
            }
        }
        DUE.hold(calls >= 20 && calls <= MOST_CALLS, "a use of one object: " + calls + " calls");
    }

    private void step(String line) throws ReflectiveOperationException {
        Matcher made = MADE.matcher(line);
        Matcher call = CALL.matcher(line);
        if (made.matches()) {
            Constructor<?> how = CommitShards.class.getConstructors()[0];
            store = (CommitShards) how.newInstance(numbers(made.group(1), how.getParameterTypes()));
        } else if (call.matches() && store != null) {
            calls++;
            DUE.be(Long.parseLong(call.group(3)), answer(call.group(1), call.group(2)), line.trim());
        } else {
            DUE.hold(false, "a line that can be read: " + line);
        }
    }

    private long answer(String name, String given) throws ReflectiveOperationException {
        for (Method m : CommitShards.class.getDeclaredMethods()) {
            if (Modifier.isPublic(m.getModifiers()) && m.getName().equals(name)) {
                return ((Number) m.invoke(store, numbers(given, m.getParameterTypes()))).longValue();
            }
        }
        throw new IllegalStateException("no such call: " + name);
    }

    private static Object[] numbers(String given, Class<?>[] types) {
        String[] parts = given.isEmpty() ? new String[0] : given.split(", ");
        Object[] numbers = new Object[parts.length];
        for (int i = 0; i < parts.length; i++) {
            boolean isLong = i < types.length && types[i] == long.class;
            numbers[i] = isLong ? (Object) Long.valueOf(parts[i]) : (Object) Integer.valueOf(parts[i]);
        }
        return numbers;
    }

    /** Each call of the face stands in the table of calls, with as many numbers as it takes, and none besides. */
    private static void table(String readme) {
        Set<String> told = new TreeSet<>();
        Matcher rows = Pattern.compile("(?m)^\\| `\\w+\\(.*?\\)`(, `\\w+\\(.*?\\)`)*").matcher(readme);
        while (rows.find()) {
            Matcher calls = Pattern.compile("(\\w+)\\((.*?)\\)").matcher(rows.group());
            while (calls.find()) {
                int numbers = calls.group(2).isEmpty() ? 0 : calls.group(2).split(", ").length;
                told.add(calls.group(1) + "/" + numbers);
            }
        }
        Set<String> face = new TreeSet<>();
        for (Method m : CommitShards.class.getDeclaredMethods()) {
            if (Modifier.isPublic(m.getModifiers())) {
                face.add(m.getName() + "/" + m.getParameterCount());
            }
        }
        DUE.hold(told.equals(face), "the calls of the table " + told + " are those of the face " + face);
    }
}
