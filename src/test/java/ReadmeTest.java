import java.io.IOException;
import java.lang.reflect.InvocationTargetException;
import java.lang.reflect.Method;
import java.nio.file.Files;
import java.nio.file.Path;
import java.util.Set;
import java.util.TreeSet;
import java.util.regex.Matcher;
import java.util.regex.Pattern;
import java.util.stream.Stream;

/** README.md held against the class and the tests as they stand. Runs in the project's folder. */
public final class ReadmeTest {
    private static final Path TESTS = Path.of("src/test/java");
    private static final Pattern BLOCK = Pattern.compile("(?s)```java\n(.*?)```");
    private static final Pattern CALL = Pattern.compile("x\\.(\\w+)\\((.*?)\\); +// (-?\\d+).*");
    private static final Pattern NAMED = Pattern.compile("`([A-Za-z*]+)\\.java`|`src/test/java/([A-Za-z*]+)\\.java`");

    public static void main(String[] args) throws IOException, ReflectiveOperationException {
        String text = Files.readString(Path.of("README.md"));
        examples(text);
        calls(text);
        refusals(text);
        tests(text);
        Check.end();
    }

    /** Each line of an example is a new object or a call with its answer. */
    private static void examples(String text) throws ReflectiveOperationException {
        Matcher block = BLOCK.matcher(text);
        int many = 0;
        while (block.find()) {
            TaughtHours x = null;
            for (String line : block.group(1).split("\n")) {
                Matcher call = CALL.matcher(line);
                if (line.equals("TaughtHours x = new TaughtHours();")) x = new TaughtHours();
                else if (call.matches() && x != null) {
                    Check.due(line, answer(x, call.group(1), call.group(2)), Long.parseLong(call.group(3)));
                    many++;
                } else if (!line.isBlank()) Check.holds("a call with its answer: " + line, false);
            }
        }
        Check.holds("examples with calls", many > 0);
    }

    private static long answer(TaughtHours x, String name, String list) throws ReflectiveOperationException {
        for (Method m : TaughtHours.class.getMethods()) {
            if (!m.getName().equals(name)) continue;
            String[] words = list.isEmpty() ? new String[0] : list.split(", ");
            Object[] values = new Object[words.length];
            for (int i = 0; i < words.length; i++) values[i] = value(m.getParameterTypes()[i], words[i]);
            try {
                return (Integer) m.invoke(x, values);
            } catch (InvocationTargetException e) {
                throw new IllegalStateException(name + " threw", e);
            }
        }
        throw new IllegalStateException("no call " + name);
    }

    private static Object value(Class<?> type, String word) {
        if (type == boolean.class) return Boolean.valueOf(word);
        long number = word.matches("'.'") ? word.charAt(1) : Long.decode(word.replace("L", ""));
        if (type == long.class) return number;
        return Math.toIntExact(number);
    }

    /** The table of calls names each call of the class, and no other. */
    private static void calls(String text) {
        Set<String> told = new TreeSet<>(), there = new TreeSet<>();
        Matcher call = Pattern.compile("`([a-z]+)\\(").matcher(text);
        while (call.find()) told.add(call.group(1));
        for (Method m : TaughtHours.class.getDeclaredMethods()) {
            if (java.lang.reflect.Modifier.isPublic(m.getModifiers())) there.add(m.getName());
        }
        Check.holds("calls told " + told + ", there " + there, told.equals(there));
    }

    private static void refusals(String text) throws ReflectiveOperationException {
        Matcher told = Pattern.compile("`([A-Z]+)` (-\\d+)").matcher(text);
        int many = 0;
        while (told.find()) {
            Check.due(told.group(1), TaughtHours.class.getField(told.group(1)).getInt(null), Long.parseLong(told.group(2)));
            many++;
        }
        Check.due("refusals told", many, 8);
    }

    /** Each test that is named is there, and each that is there is named, perhaps by a star. */
    private static void tests(String text) throws IOException {
        Set<String> named = new TreeSet<>();
        Matcher m = NAMED.matcher(text);
        while (m.find()) named.add(m.group(1) != null ? m.group(1) : m.group(2));
        Set<String> there = new TreeSet<>();
        try (Stream<Path> files = Files.list(TESTS)) {
            files.forEach(f -> there.add(f.getFileName().toString().replace(".java", "")));
        }
        for (String name : named) {
            Check.holds("is there: " + name, there.stream().anyMatch(t -> t.matches(name.replace("*", ".*"))));
        }
        for (String test : there) {
            if (!test.endsWith("Test")) continue;
            Check.holds("is named: " + test, named.stream().anyMatch(n -> test.matches(n.replace("*", ".*"))));
        }
    }
}
