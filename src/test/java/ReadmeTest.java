import java.lang.reflect.Method;
import java.lang.reflect.Modifier;
import java.nio.file.Files;
import java.nio.file.Path;
import java.util.HashMap;
import java.util.Map;
import java.util.regex.Matcher;
import java.util.regex.Pattern;

/** README.md: its example answers as it says there, and it tells of every call and test. */
public final class ReadmeTest {
    private static final Pattern EXAMPLE = Pattern.compile("(?s)```java\n(.*?)```");

    /** As in: int reader = desk.begin(5); // 0: why. */
    private static final Pattern ROW = Pattern.compile("(?:int (\\w+) = )?desk\\.(\\w+)\\((.*)\\); +// ([\\w.-]+)(:.*)?");

    private static final Map<String, Integer> CONSTANTS = Map.of(
            "LockDesk.NONE", LockDesk.NONE,
            "LockDesk.ABORTED", LockDesk.ABORTED,
            "LockDesk.WAITS", LockDesk.WAITS,
            "LockDesk.GRANTED", LockDesk.GRANTED);

    public static void main(String[] args) throws Exception {
        String readme = Files.readString(Path.of("README.md"));
        example(readme);
        everyCall(readme);
        everyTest(readme);
        Script.finish();
    }

    private static void example(String readme) {
        Matcher example = EXAMPLE.matcher(readme);
        Script.due("there is an example", example.find(), true);
        String[] lines = example.group(1).strip().split("\n+");
        Script.due("the example's first line", lines[0], "LockDesk desk = new LockDesk();");
        LockDesk desk = new LockDesk();
        Map<String, String> named = new HashMap<>();
        for (int i = 1; i < lines.length; i++) {
            exampleRow(desk, lines[i], named);
        }
    }

    private static void exampleRow(LockDesk desk, String line, Map<String, String> named) {
        Matcher row = ROW.matcher(line);
        if (!row.matches()) {
            Script.due("a call with its answer", line, ROW.pattern());
            return;
        }
        StringBuilder call = new StringBuilder(row.group(2));
        for (String argument : row.group(3).split(", ")) {
            call.append(' ').append(named.getOrDefault(argument, argument));
        }
        String got = Script.answer(desk, call.toString());
        String told = row.group(4);
        Script.due(line, got, CONSTANTS.containsKey(told) ? CONSTANTS.get(told).toString() : told);
        if (row.group(1) != null) {
            named.put(row.group(1), got);
        }
    }

    private static void everyCall(String readme) {
        for (Method method : LockDesk.class.getDeclaredMethods()) {
            if (Modifier.isPublic(method.getModifiers())) {
                String call = "`" + method.getName() + "(";
                Script.due("README tells of " + call, readme.contains(call), true);
            }
        }
    }

    private static void everyTest(String readme) throws Exception {
        try (var files = Files.list(Path.of("src/test/java"))) {
            for (Path file : files.sorted().toList()) {
                Script.due("README tells of " + file, readme.contains(file.getFileName().toString()), true);
            }
        }
    }
}
