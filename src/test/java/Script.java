import java.util.ArrayList;
import java.util.List;
import java.util.Map;

/** Runs of calls written as text, a call in a row: the call, "=", and the answer or the exception that is due. */
final class Script {
    /** So many calls of one object answer as the document says. */
    static final int CALLS = 512;

    /** The very classes: what the machine throws by itself is of another class, be it below these. */
    private static final Map<Class<?>, String> EXCEPTIONS = Map.of(
            IndexOutOfBoundsException.class, "IndexOutOfBounds",
            IllegalArgumentException.class, "IllegalArgument",
            IllegalStateException.class, "IllegalState");

    private static int rows = 0;
    private static int wrong = 0;

    private Script() {
    }

    static void run(String title, String script) {
        run(title, List.of(script.strip().split("\n")));
    }

    static void run(String title, List<String> script) {
        if (script.size() > CALLS) {
            throw new AssertionError(title + ": more calls than an object serves: " + script.size());
        }
        LockDesk desk = new LockDesk();
        for (String line : script) {
            row(desk, title, line.strip());
        }
    }

    static void row(LockDesk desk, String title, String row) {
        String[] sides = row.split(" = ");
        due(title + ": " + sides[0], answer(desk, sides[0]), sides[1]);
    }

    static void due(String what, Object got, Object want) {
        rows++;
        if (!got.equals(want)) {
            wrong++;
            System.out.println(what + " answered " + got + ", due is " + want);
        }
    }

    /** Says how it went, and ends with exit code 1 if a row was wrong. */
    static void finish() {
        System.out.println(rows + " rows, " + wrong + " wrong");
        if (wrong != 0 || rows == 0) {
            System.exit(1);
        }
    }

    /** The calls of a script, without what is due. */
    static List<String> calls(String script) {
        List<String> calls = new ArrayList<>();
        for (String line : script.strip().split("\n")) {
            calls.add(line.strip().split(" = ")[0]);
        }
        return calls;
    }

    static String answer(LockDesk desk, String call) {
        try {
            return Long.toString(call(desk, call.split(" ")));
        } catch (RuntimeException e) {
            return EXCEPTIONS.getOrDefault(e.getClass(), e.getClass().getName());
        }
    }

    private static long call(LockDesk desk, String[] words) {
        switch (words[0]) {
            case "begin": return desk.begin(number(words[1]));
            case "lock": return desk.lock(number(words[1]), number(words[2]), number(words[3]));
            case "commit": return desk.commit(number(words[1]));
            case "abort": return desk.abort(number(words[1]));
            case "escalate": return desk.escalate(number(words[1]), number(words[2]));
            case "mode": return desk.mode(number(words[1]), number(words[2]));
            case "told": return desk.told(number(words[1]), number(words[2]));
            case "many": return desk.many(number(words[1]), Boolean.parseBoolean(words[2]));
            case "at": return desk.at(number(words[1]), number(words[2]), Boolean.parseBoolean(words[3]));
            case "waitsFor": return desk.waitsFor(number(words[1]));
            case "count": return desk.count(number(words[1]));
            case "astray": return desk.astray();
            default: throw new AssertionError("no such call: " + words[0]);
        }
    }

    private static int number(String word) {
        return Integer.parseInt(word);
    }
}
