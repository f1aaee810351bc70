import java.io.IOException;
import java.lang.reflect.Method;
import java.lang.reflect.Modifier;
import java.nio.file.Files;
import java.nio.file.Path;
import java.util.TreeSet;
import java.util.regex.Matcher;
import java.util.regex.Pattern;

/** README.md says how each call is made and what it answers: its rows are run as they stand there. */
public final class ReadmeTest {
    private static final Path PAGE = Path.of("README.md");
    private static final Pattern ROW = Pattern.compile("x\\.(\\w+)\\(([^)]*)\\);\\s+// (-?\\d+): .*");
    private static final Pattern LINE_OF_TABLE = Pattern.compile("\\| `(\\w+)\\(([^)]*)\\)` \\|.*");
    private static final Due due = new Due("ReadmeTest");

    private final RingBases x = new RingBases();
    private final TreeSet<String> shown = new TreeSet<>();
    private final TreeSet<String> listed = new TreeSet<>();

    public static void main(String[] args) throws IOException, ReflectiveOperationException {
        String page = Files.readString(PAGE);
        new ReadmeTest().look(page);
        due.holds("an object is made", page.contains("\nRingBases x = new RingBases();\n"));
        due.holds("the command for the tests is told", page.contains("\n```sh\n.ci/run\n```\n"));
        due.holds("there is that command", Files.isExecutable(Path.of(".ci/run")));
        testsAreNamed(page);
        due.finish();
    }

    private void look(String page) throws ReflectiveOperationException {
        for (String line : page.split("\n")) {
            Matcher row = ROW.matcher(line);
            Matcher ofTable = LINE_OF_TABLE.matcher(line);
            if (row.matches()) {
                shown.add(row.group(1));
                due.is(line, call(row.group(1), row.group(2)), Long.parseLong(row.group(3)));
            } else if (ofTable.matches()) {
                listed.add(ofTable.group(1) + "/" + partsOf(ofTable.group(2)).length);
            } else {
                due.holds("a call without its answer: " + line, !line.startsWith("x."));
            }
        }
        for (Method method : RingBases.class.getDeclaredMethods()) {
            if (Modifier.isPublic(method.getModifiers())) {
                due.holds("shown: " + method, shown.contains(method.getName()));
                due.holds("listed: " + method, listed.contains(method.getName() + "/" + method.getParameterCount()));
            }
        }
    }

    private static String[] partsOf(String arguments) {
        return arguments.isEmpty() ? new String[0] : arguments.split(", ");
    }

    private long call(String name, String arguments) throws ReflectiveOperationException {
        String[] parts = partsOf(arguments);
        Class<?>[] types = new Class<?>[parts.length];
        Object[] values = new Object[parts.length];
        for (int i = 0; i < parts.length; i++) {
            types[i] = int.class;
            values[i] = parts[i].startsWith("'") ? (int) parts[i].charAt(1) : Integer.parseInt(parts[i]);
        }
        return ((Number) RingBases.class.getMethod(name, types).invoke(x, values)).longValue();
    }

    private static void testsAreNamed(String page) throws IOException {
        try (var files = Files.list(Path.of("src/test/java"))) {
            for (Path file : (Iterable<Path>) files::iterator) {
                String name = file.getFileName().toString().replace(".java", "");
                due.holds("named on the page: " + name, !name.endsWith("Test") || page.contains("| `" + name + "` |"));
            }
        }
    }
}
