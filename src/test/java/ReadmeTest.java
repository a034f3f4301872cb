import java.io.IOException;
import java.lang.reflect.Method;
import java.nio.file.Files;
import java.nio.file.Path;
import java.util.Set;
import java.util.TreeSet;
import java.util.regex.Matcher;
import java.util.regex.Pattern;
import java.util.stream.Stream;

/** README.md tells what holds: the answers in its example, the calls and the tests that it names. */
public final class ReadmeTest {
    private static final Pattern CALL = Pattern.compile("(?m)^street\\.(\\w+)\\((.*)\\); *// (-?\\d+)(:.*)?$");

    private static final Due due = new Due();

    public static void main(String[] args) throws IOException, ReflectiveOperationException {
        String readme = Files.readString(Path.of("README.md"));
        example(readme);
        calls(readme);
        tests(readme);
        due.end();
    }

    private static void example(String readme) throws ReflectiveOperationException {
        SweptRound street = new SweptRound();
        int many = 0;
        Matcher line = CALL.matcher(readme);
        while (line.find()) {
            many++;
            String call = line.group(1) + "(" + line.group(2) + ")";
            due.is(call, answer(street, line.group(1), line.group(2)), Long.parseLong(line.group(3)));
        }
        long lines = readme.lines().filter(l -> l.startsWith("street.")).count();
        due.is("lines of the example that tell an answer", many, lines);
        due.is("there is an example", many > 0 ? 1 : 0, 1);
    }

    private static int answer(SweptRound street, String name, String listed) throws ReflectiveOperationException {
        String[] texts = listed.isEmpty() ? new String[0] : listed.split(", ");
        Method method = methodOf(name);
        Object[] values = new Object[texts.length];
        for (int i = 0; i < texts.length; i++) {
            long value = Long.decode(texts[i]);
            if (method.getParameterTypes()[i] == long.class) {
                values[i] = value;
            } else {
                values[i] = (int) value;
            }
        }
        return (Integer) method.invoke(street, values);
    }

    private static Method methodOf(String name) {
        for (Method method : SweptRound.class.getDeclaredMethods()) {
            if (method.getName().equals(name)) {
                return method;
            }
        }
        throw new IllegalStateException("README.md calls " + name + ", which there is not");
    }

    private static void calls(String readme) {
        for (Method method : SweptRound.class.getMethods()) {
            if (method.getDeclaringClass() == SweptRound.class) {
                String name = method.getName();
                due.is("README.md names " + name, readme.contains("`" + name + "`") ? 1 : 0, 1);
            }
        }
    }

    private static void tests(String readme) throws IOException {
        Set<String> named = new TreeSet<>();
        Matcher m = Pattern.compile("`(\\w+Test)`").matcher(readme);
        while (m.find()) {
            named.add(m.group(1));
        }
        Set<String> there = new TreeSet<>();
        try (Stream<Path> files = Files.list(Path.of("src/test/java"))) {
            files.map(f -> f.getFileName().toString()).filter(f -> f.endsWith("Test.java"))
                .forEach(f -> there.add(f.replace(".java", "")));
        }
        due.is("README.md names " + named + " of the tests " + there, named.equals(there) ? 1 : 0, 1);
    }
}
