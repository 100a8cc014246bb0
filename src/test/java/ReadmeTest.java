import java.io.IOException;
import java.lang.reflect.InvocationTargetException;
import java.lang.reflect.Method;
import java.lang.reflect.Modifier;
import java.nio.file.Files;
import java.nio.file.Path;
import java.util.ArrayList;
import java.util.List;
import java.util.regex.Matcher;
import java.util.regex.Pattern;
import java.util.stream.Stream;

/** That the run of calls in README.md answers what its comments say, and that no call and no test is missing there. */
public final class ReadmeTest {
    private static final Pattern CALL = Pattern.compile("t\\.(\\w+)\\((.*)\\);\\s+// (\\S+): .+");
    private static final String FIRST_LINE = "TileForge t = new TileForge();";

    public static void main(String[] args) throws Exception {
        String readme = Files.readString(Path.of("README.md"));
        List<String> called = runTheExample(readme);
        for (Method m : TileForge.class.getDeclaredMethods()) {
            if (Modifier.isPublic(m.getModifiers())) {
                String name = m.getName();
                Due.same(name + " in the example", "true", "" + called.contains(name));
                Due.same(name + " in the table of calls", "true", "" + readme.contains("| `" + name + "("));
            }
        }
        for (String test : namesOfTests()) {
            Due.same(test + " in the table of tests", "true", "" + readme.contains("| `" + test + "` |"));
        }
        Due.same("how the tests are run", "true", "" + readme.contains("\n    .ci/run\n"));
        Due.end();
    }

    private static List<String> runTheExample(String readme) throws IllegalAccessException {
        String example = readme.split("```java\n")[1].split("```")[0];
        String[] lines = example.split("\n");
        Due.same("the first line of the example", FIRST_LINE, lines[0]);
        TileForge t = new TileForge();
        List<String> called = new ArrayList<>();
        for (int i = 1; i < lines.length; i++) {
            Matcher line = CALL.matcher(lines[i]);
            if (line.matches()) {
                called.add(line.group(1));
                Due.same(lines[i], line.group(3), answer(t, line.group(1), line.group(2)));
            } else {
                Due.same("a line of the example", "a call and its answer", lines[i]);
            }
        }
        return called;
    }

    private static String answer(TileForge t, String name, String numbers) throws IllegalAccessException {
        String[] texts = numbers.isEmpty() ? new String[0] : numbers.split(", ");
        Object[] values = new Object[texts.length];
        for (int i = 0; i < texts.length; i++) {
            boolean truth = texts[i].equals("true") || texts[i].equals("false");
            values[i] = truth ? Boolean.valueOf(texts[i]) : (Object) Integer.valueOf(texts[i]);
        }
        for (Method m : TileForge.class.getMethods()) {
            if (m.getName().equals(name) && m.getDeclaringClass() == TileForge.class) {
                try {
                    return String.valueOf(m.invoke(t, values));
                } catch (InvocationTargetException e) {
                    return e.getCause().getClass().getSimpleName();
                }
            }
        }
        return "no such call";
    }

    private static List<String> namesOfTests() throws IOException {
        List<String> names = new ArrayList<>();
        try (Stream<Path> files = Files.list(Path.of("src/test/java"))) {
            files.map(file -> file.getFileName().toString()).filter(name -> name.endsWith("Test.java")).sorted()
                    .forEach(name -> names.add(name.substring(0, name.length() - ".java".length())));
        }
        return names;
    }
}
