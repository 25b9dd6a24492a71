import java.io.IOException;
import java.lang.reflect.InvocationTargetException;
import java.lang.reflect.Method;
import java.nio.file.DirectoryStream;
import java.nio.file.Files;
import java.nio.file.Path;
import java.util.List;
import java.util.regex.Matcher;
import java.util.regex.Pattern;

/** README.md: its example answers what it says, and it names each call and each test. */
final class ReadmeTest {
    private static final Check CHECK = new Check();
    private static final Path README = Path.of("README.md");
    private static final Path TESTS = Path.of("src/test/java");
    private static final String NEW = "PipeComputer x = new PipeComputer();";
    private static final Pattern CALL = Pattern.compile("x\\.(\\w+)\\(([^)]*)\\);\\s*(?://\\s*(.*))?");
    private static final Pattern SAID = Pattern.compile("(answers|throws) ([-\\w.]+?)(?::.*)?");

    public static void main(String[] args) throws IOException, ReflectiveOperationException {
        List<String> lines = Files.readAllLines(README);
        example(lines);
        callsAreNamed(lines);
        testsAreNamed(lines);
        CHECK.end();
    }

    private static void example(List<String> lines) throws ReflectiveOperationException {
        int from = lines.indexOf("```java") + 1;
        int end = from + lines.subList(from, lines.size()).indexOf("```");
        CHECK.dueText("the example's first line", lines.get(from), NEW);
        PipeComputer x = new PipeComputer();
        for (String line : lines.subList(from + 1, end)) {
            Matcher call = CALL.matcher(line);
            if (call.matches()) {
                exampleLine(x, line, call);
            } else {
                CHECK.tell("README.md has a line that is no call: " + line);
            }
        }
    }

    /** A call that answers something must have its answer written behind it. */
    private static void exampleLine(PipeComputer x, String line, Matcher call) throws ReflectiveOperationException {
        Method method = methodNamed(call.group(1));
        String got = answerOf(x, method, call.group(2));
        Matcher said = SAID.matcher(call.group(3) == null ? "" : call.group(3));
        boolean isSaid = said.matches();
        if (method.getReturnType() == void.class && !isSaid) {
            CHECK.dueText(line, got, "answers null");
        } else {
            CHECK.dueText(line, got, isSaid ? said.group(1) + " " + said.group(2) : "an answer in the comment");
        }
    }

    private static String answerOf(PipeComputer x, Method method, String text) throws ReflectiveOperationException {
        String[] parts = text.isEmpty() ? new String[0] : text.split(", ");
        Class<?>[] types = method.getParameterTypes();
        Object[] values = new Object[parts.length];
        for (int k = 0; k < parts.length; k++) {
            if (types[k] == double.class) {
                values[k] = Double.valueOf(parts[k]);
            } else {
                values[k] = Integer.valueOf(parts[k]);
            }
        }
        try {
            return "answers " + method.invoke(x, values);
        } catch (InvocationTargetException e) {
            return "throws " + e.getCause().getClass().getSimpleName();
        }
    }

    private static Method methodNamed(String name) throws NoSuchMethodException {
        for (Method method : PipeComputer.class.getDeclaredMethods()) {
            if (method.getName().equals(name)) {
                return method;
            }
        }
        throw new NoSuchMethodException(name);
    }

    /** Each call of the face stands in the table and in the example. */
    private static void callsAreNamed(List<String> lines) {
        for (Method method : PipeComputer.class.getMethods()) {
            if (method.getDeclaringClass() == PipeComputer.class) {
                dueNamed(lines, "| `" + method.getName() + "(");
                dueNamed(lines, "x." + method.getName() + "(");
            }
        }
    }

    private static void testsAreNamed(List<String> lines) throws IOException {
        try (DirectoryStream<Path> files = Files.newDirectoryStream(TESTS, "*Test.java")) {
            for (Path file : files) {
                dueNamed(lines, "`" + file.getFileName().toString().replace(".java", "") + "`");
            }
        }
    }

    private static void dueNamed(List<String> lines, String text) {
        for (String line : lines) {
            if (line.contains(text)) {
                return;
            }
        }
        CHECK.tell("README.md doesn't have: " + text);
    }
}
