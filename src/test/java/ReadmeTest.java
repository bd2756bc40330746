import java.io.IOException;
import java.lang.reflect.Method;
import java.nio.file.Files;
import java.nio.file.Path;
import java.util.ArrayList;
import java.util.HashMap;
import java.util.List;
import java.util.Map;
import java.util.Set;
import java.util.TreeSet;
import java.util.regex.Matcher;
import java.util.regex.Pattern;

/** What README.md says is so: the calls that it shows answer as it says, and its command runs all tests. */
public final class ReadmeTest {
    private static final Path README = Path.of("README.md");
    private static final Path COMMAND = Path.of(".ci/run");
    private static final Path TESTS = Path.of("src/test/java");
    private static final Pattern CALL = Pattern.compile(
        "(?:(int|boolean) (\\w+) = )?room\\.(\\w+)\\(([^()]*)\\);\\s+// (NONE|true|false|-?\\d+)(?:: .+)?");
    private static final String MAKING = "PlateRoom room = new PlateRoom();";

    private final Map<String, Object> names = new HashMap<>();
    private final Set<String> called = new TreeSet<>();
    private PlateRoom room;

    public static void main(String[] args) throws IOException, ReflectiveOperationException {
        String text = Files.readString(README);
        new ReadmeTest().calls(text);
        command(text);
        namedTests(text);
        Check.finish();
    }

    private static List<String> block(String text, String language) {
        Matcher block = Pattern.compile("(?s)```" + language + "\n(.*?)```").matcher(text);
        List<String> lines = new ArrayList<>();
        while (block.find()) {
            lines.addAll(block.group(1).lines().toList());
        }
        return lines;
    }

    // ---- the calls that it shows

    private void calls(String text) throws ReflectiveOperationException {
        Check.part("the calls in README.md");
        for (String line : block(text, "java")) {
            if (line.equals(MAKING)) {
                room = new PlateRoom();
            } else if (!line.isBlank()) {
                oneCall(line);
            }
        }
        for (String name : new String[] {"plate", "taken", "span", "status", "row", "out", "best", "hour", "free"}) {
            Check.due(name + "() is shown", called.contains(name), true);
        }
    }

    private void oneCall(String line) throws ReflectiveOperationException {
        Matcher call = CALL.matcher(line);
        boolean isCall = room != null && call.matches();
        Check.due("this is a call with its answer: " + line, isCall, true);
        if (!isCall) {
            return;
        }
        Method method = methodOf(call.group(3));
        String[] words = call.group(4).isEmpty() ? new String[0] : call.group(4).split(", ");
        Object[] values = new Object[words.length];
        for (int k = 0; k < words.length; k++) {
            values[k] = valueOf(words[k]);
        }
        Object got = method.invoke(room, values);
        Check.due(line, Twins.numberOf(got), Twins.numberOf(valueOf(call.group(5))));
        called.add(method.getName());
        if (call.group(2) != null) {
            Check.due("its type: " + line, method.getReturnType().getName().equals(call.group(1)), true);
            names.put(call.group(2), got);
        }
    }

    private static Method methodOf(String name) throws NoSuchMethodException {
        for (Method method : PlateRoom.class.getDeclaredMethods()) {
            if (method.getName().equals(name)) {
                return method;
            }
        }
        throw new NoSuchMethodException(name);
    }

    private Object valueOf(String word) {
        if (names.containsKey(word)) {
            return names.get(word);
        }
        if (word.equals("true") || word.equals("false")) {
            return Boolean.valueOf(word);
        }
        return word.equals("NONE") ? PlateRoom.NONE : Integer.valueOf(word);
    }

    // ---- the command, and the tests that it names

    private static void command(String text) throws IOException {
        Check.part("the command in README.md");
        Check.due("it names " + COMMAND + " alone", block(text, "sh").equals(List.of(COMMAND.toString())), true);
        Check.due("it can be run", Files.isExecutable(COMMAND), true);
        String script = Files.readString(COMMAND);
        Check.due("it runs the project's tests", script.contains("\nrun_all src/test/java/*Test.java\n"), true);
        Check.due("it runs the shared tests", script.contains("\nshared=../shared/tests\n")
            && script.contains("\nrun_all \"$shared\"/*.java\n"), true);
    }

    private static void namedTests(String text) throws IOException {
        Check.part("the tests in README.md");
        Set<String> named = new TreeSet<>();
        Matcher names = Pattern.compile("`(\\w+Test)`").matcher(text);
        while (names.find()) {
            named.add(names.group(1));
        }
        Set<String> found = new TreeSet<>();
        try (var files = Files.newDirectoryStream(TESTS, "*.java")) {
            for (Path file : files) {
                String name = file.getFileName().toString().replace(".java", "");
                boolean isTest = Files.readString(file).contains("public static void main(");
                Check.due(name + " is run by the command", name.endsWith("Test"), isTest);
                if (isTest) {
                    found.add(name);
                } else {
                    Check.due(name + " is named", text.contains("`" + name + "`"), true);
                }
            }
        }
        Check.due("named are " + named + ", found are " + found, named.equals(found), true);
    }
}
