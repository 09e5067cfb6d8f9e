import java.io.IOException;
import java.lang.reflect.InvocationTargetException;
import java.lang.reflect.Method;
import java.nio.file.Files;
import java.nio.file.Path;
import java.util.List;
import java.util.regex.Matcher;
import java.util.regex.Pattern;
import java.util.stream.Collectors;
import java.util.stream.Stream;

/** README.md: each call that it shows answers as it says, and it names every test. */
public final class ReadmeTest {
    private static final Path README = Path.of("README.md");
    private static final Path TESTS = Path.of("src/test/java");
    private static final String MADE = "TippingBeam beam = new TippingBeam();";
    private static final Pattern CALL = Pattern.compile("beam\\.(\\w+)\\((.*?)\\); *// (-?\\d+)\\b.*");
    private static final int LEAST_CALLS = 15;

    private static final Check CHECK = new Check();

    public static void main(String[] args) throws IOException, ReflectiveOperationException {
        List<String> lines = Files.readAllLines(README);
        calls(lines);
        tests(String.join("\n", lines));
        CHECK.end("ReadmeTest");
    }

    private static void calls(List<String> lines) throws ReflectiveOperationException {
        int begin = lines.indexOf("```java");
        CHECK.due("README.md shows calls", begin >= 0 ? 1 : 0, 1);
        CHECK.due("they begin with a new object", lines.indexOf(MADE), begin + 1);
        TippingBeam beam = new TippingBeam();
        int calls = 0;
        for (int i = begin + 2; i < lines.size() && !lines.get(i).equals("```"); i++) {
            Matcher m = CALL.matcher(lines.get(i));
            boolean isCall = m.matches();
            CHECK.due("a call with its answer: " + lines.get(i), isCall ? 1 : 0, 1);
            if (isCall) {
                CHECK.due(lines.get(i), answer(beam, m.group(1), m.group(2)), Integer.parseInt(m.group(3)));
                calls++;
            }
        }
        CHECK.due("so many calls are shown", calls >= LEAST_CALLS ? 1 : 0, 1);
    }

    private static int answer(TippingBeam beam, String name, String written)
            throws IllegalAccessException, InvocationTargetException {
        String[] arguments = written.isEmpty() ? new String[0] : written.split(", *");
        for (Method method : TippingBeam.class.getMethods()) {
            Class<?>[] types = method.getParameterTypes();
            if (method.getName().equals(name) && types.length == arguments.length) {
                Object[] values = new Object[types.length];
                for (int i = 0; i < types.length; i++) {
                    values[i] = value(types[i], arguments[i]);
                }
                return (int) method.invoke(beam, values);
            }
        }
        throw new IllegalStateException("no such call: " + name + "(" + written + ")");
    }

    private static Object value(Class<?> type, String written) {
        if (type == char.class) {
            return written.charAt(1);
        }
        if (type == boolean.class) {
            return Boolean.valueOf(written);
        }
        return Integer.valueOf(written);
    }

    private static void tests(String readme) throws IOException {
        List<String> names;
        try (Stream<Path> files = Files.list(TESTS)) {
            names = files.map(f -> f.getFileName().toString().replace(".java", ""))
                    .filter(n -> n.endsWith("Test")).sorted().collect(Collectors.toList());
        }
        for (String name : names) {
            CHECK.due("README.md names " + name, readme.contains("- `" + name + "`") ? 1 : 0, 1);
        }
        CHECK.due("README.md names .ci/run", readme.contains("\n.ci/run\n") ? 1 : 0, 1);
    }
}
