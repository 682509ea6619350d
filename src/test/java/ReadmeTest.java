import java.io.IOException;
import java.lang.reflect.Method;
import java.lang.reflect.Modifier;
import java.nio.file.Files;
import java.nio.file.Path;
import java.util.List;
import java.util.regex.Matcher;
import java.util.regex.Pattern;
import java.util.stream.Stream;

/** README.md: its examples are run as they stand there, and it names every call and every test. */
public final class ReadmeTest {
    private static final Pattern WRITING =
        Pattern.compile("for \\(char c : \"([^\"]*)\"\\.toCharArray\\(\\)\\) desk\\.write\\(c\\);");
    private static final Pattern CALL = Pattern.compile("desk\\.(\\w+)\\(([^)]*)\\);\\s*(?:// (-?\\w+): .*)?");

    private static final Checks checks = new Checks();

    public static void main(String[] args) throws IOException, ReflectiveOperationException {
        List<String> lines = Files.readAllLines(Path.of("README.md"));
        theExamplesAnswerAsTheySay(lines);
        everyCallHasARow(lines);
        everyTestHasARow(lines);
        checks.due("how to run the tests", lines.contains(".ci/run"), true);
        checks.end();
    }

    private static void theExamplesAnswerAsTheySay(List<String> lines) throws ReflectiveOperationException {
        StopDesk desk = null;
        boolean inside = false;
        int examples = 0;
        for (String line : lines) {
            if (line.startsWith("```")) {
                inside = line.equals("```java");
                examples += inside ? 1 : 0;
            } else if (inside && line.equals("StopDesk desk = new StopDesk();")) {
                desk = new StopDesk();
            } else if (inside && !line.isEmpty()) {
                play(desk, line);
            }
        }
        checks.due("examples", examples, 2);
    }

    private static void play(StopDesk desk, String line) throws ReflectiveOperationException {
        Matcher writing = WRITING.matcher(line);
        Matcher call = CALL.matcher(line);
        if (writing.matches()) {
            Checks.type(desk, writing.group(1));
        } else if (call.matches()) {
            Object answer = called(desk, call.group(1), call.group(2));
            checks.due(line, String.valueOf(answer), String.valueOf(call.group(3)));
        } else {
            checks.due("can be read: " + line, false, true);
        }
    }

    private static Object called(StopDesk desk, String name, String list) throws ReflectiveOperationException {
        String[] given = list.isEmpty() ? new String[0] : list.split(", ");
        for (Method method : StopDesk.class.getMethods()) {
            if (method.getName().equals(name)) {
                Object[] values = new Object[given.length];
                for (int i = 0; i < given.length; i++) {
                    boolean truth = method.getParameterTypes()[i] == boolean.class;
                    values[i] = truth ? (Object) Boolean.valueOf(given[i]) : (Object) Integer.valueOf(given[i]);
                }
                return method.invoke(desk, values);
            }
        }
        throw new IllegalArgumentException("no such call: " + name);
    }

    private static void everyCallHasARow(List<String> lines) {
        for (Method method : StopDesk.class.getDeclaredMethods()) {
            if (Modifier.isPublic(method.getModifiers())) {
                checks.due("rows of " + method.getName(), rows(lines, method.getName() + "("), 1);
            }
        }
    }

    private static void everyTestHasARow(List<String> lines) throws IOException {
        try (Stream<Path> files = Files.list(Path.of("src/test/java"))) {
            for (Path file : files.toList()) {
                String name = file.getFileName().toString().replace(".java", "");
                if (name.endsWith("Test")) {
                    checks.due("rows of " + name, rows(lines, name + "`"), 1);
                }
            }
        }
    }

    private static long rows(List<String> lines, String named) {
        return lines.stream().filter(line -> line.startsWith("| `" + named)).count();
    }
}
