import java.io.IOException;
import java.lang.reflect.InvocationTargetException;
import java.lang.reflect.Method;
import java.lang.reflect.Modifier;
import java.nio.file.Files;
import java.nio.file.Path;
import java.util.List;
import java.util.Set;
import java.util.TreeSet;
import java.util.regex.Matcher;
import java.util.regex.Pattern;
import java.util.stream.Collectors;
import java.util.stream.Stream;

/** README.md tells the class and its tests as they stand: its calls are made, and its names are looked up. */
public final class ReadmeTest {
    private static final Pattern CALL = Pattern.compile("engine\\.(\\w+)\\(([^)]*)\\);\\s*(?://\\s*(.*))?");
    private static final Pattern ARGUMENT = Pattern.compile("(?:8 \\* (\\d+)(?: \\+ (\\d+))?|(\\d+))");
    /** What a comment begins with when it tells the answer. */
    private static final Pattern ANSWER = Pattern.compile("(-?\\d+|true|false|\\w+Exception)(?::.*)?");
    private static final Pattern TEST = Pattern.compile("`(\\w+Test)`");

    private final Check check = new Check();
    private final String text;
    private GoalEngine engine;

    private ReadmeTest(String text) {
        this.text = text;
    }

    private List<String> exampleLines() {
        int start = text.indexOf("```java\n") + "```java\n".length();
        return text.substring(start, text.indexOf("```", start)).lines().toList();
    }

    private static int valueOf(String argument) {
        Matcher form = ARGUMENT.matcher(argument);
        if (!form.matches()) {
            throw new IllegalArgumentException(argument);
        }
        if (form.group(3) != null) {
            return Integer.parseInt(form.group(3));
        }
        return 8 * Integer.parseInt(form.group(1)) + (form.group(2) == null ? 0 : Integer.parseInt(form.group(2)));
    }

    private String answerOf(String name, String argument) throws ReflectiveOperationException {
        try {
            return "" + (argument.isEmpty() ? GoalEngine.class.getMethod(name).invoke(engine)
                    : GoalEngine.class.getMethod(name, int.class).invoke(engine, valueOf(argument)));
        } catch (InvocationTargetException e) {
            return e.getCause().getClass().getSimpleName();
        }
    }

    /** The comment of a put may say what the word is; that of any other call begins with its answer. */
    private void makeCall(String line) throws ReflectiveOperationException {
        Matcher call = CALL.matcher(line);
        check.dueTrue("can be read: " + line, call.matches());
        String got = answerOf(call.group(1), call.group(2));
        if (call.group(1).equals("put")) {
            check.dueTrue(line, !got.endsWith("Exception"));
            return;
        }
        Matcher answer = ANSWER.matcher(call.group(3));
        check.dueTrue("tells an answer: " + line, answer.matches());
        check.due(line, answer.group(1), got);
    }

    private void example() throws ReflectiveOperationException {
        List<String> lines = exampleLines();
        check.due("first line", "GoalEngine engine = new GoalEngine();", lines.get(0));
        engine = new GoalEngine();
        for (String line : lines.subList(1, lines.size())) {
            makeCall(line);
        }
    }

    private void tableOfCalls() {
        for (Method method : GoalEngine.class.getDeclaredMethods()) {
            if (Modifier.isPublic(method.getModifiers())) {
                Matcher row = Pattern.compile("\\| `" + method.getName() + "\\(\\w*\\)` .*").matcher(text);
                check.dueTrue("a row for " + method.getName(), row.find());
                for (Class<?> thrown : method.getExceptionTypes()) {
                    check.dueTrue(thrown + " of " + method.getName(), row.group().contains(thrown.getSimpleName()));
                }
            }
        }
    }

    private void listOfTests() throws IOException {
        Set<String> named = new TreeSet<>();
        Matcher name = TEST.matcher(text);
        while (name.find()) {
            named.add(name.group(1));
        }
        try (Stream<Path> files = Files.list(Path.of("src/test/java"))) {
            Set<String> there = files.map(file -> file.getFileName().toString().replace(".java", ""))
                    .filter(file -> file.endsWith("Test")).collect(Collectors.toCollection(TreeSet::new));
            check.due("tests", there.toString(), named.toString());
        }
        check.dueTrue(".ci/run is there", text.contains("`.ci/run`") && Files.isExecutable(Path.of(".ci/run")));
    }

    public static void main(String[] args) throws IOException, ReflectiveOperationException {
        ReadmeTest test = new ReadmeTest(Files.readString(Path.of("README.md")));
        test.example();
        test.tableOfCalls();
        test.listOfTests();
        test.check.end();
    }
}
