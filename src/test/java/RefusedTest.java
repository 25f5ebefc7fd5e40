import java.util.ArrayList;
import java.util.List;
import java.util.Map;

/**
 * "of several that a call names, the first one. A call that throws changes nothing.": every call of the face with
 * arguments at, and far over, its edges; what it throws, and that all that can be read is as it was, and that calls
 * that follow answer as they would have done. Calls that only read must change nothing, either.
 */
public final class RefusedTest {
    private static final String PLACE = "IndexOutOfBounds";
    private static final String ARGUMENT = "IllegalArgument";
    private static final String STATE = "IllegalState";

    private static final int LEAST = Integer.MIN_VALUE;
    private static final int MOST = Integer.MAX_VALUE;
    // Five times 858993460 wraps around to 4, five times -858993459 to 1.
    private static final int[] NO_OBJECTS = {LEAST, -858993459, -1, 85, 858993460, MOST};
    private static final int[] SOME_OBJECTS = {0, 1, 2, 3, 5, 6, 9, 20, 21, 84};
    private static final int[] NO_MODES = {LEAST, -1, 5, MOST};
    private static final int[] NO_PRIORITIES = {LEAST, -1, 100, MOST};
    private static final int[] PRIORITIES = {0, 50, 99};

    private static final String BUSY = """
            begin 5 = 0
            begin 6 = 1
            begin 7 = 2
            begin 8 = 3
            begin 9 = 4
            begin 9 = 5
            begin 4 = 6
            begin 0 = 7
            begin 99 = 8
            begin 50 = 9
            lock 0 0 1 = 1
            lock 0 1 1 = 1
            lock 0 5 4 = 1
            lock 1 0 1 = 1
            lock 1 2 2 = 1
            lock 2 0 1 = 1
            lock 2 1 1 = 1
            lock 2 5 2 = 0
            lock 3 0 1 = 1
            lock 3 2 0 = 1
            lock 3 2 1 = 0
            lock 4 0 4 = 0
            abort 4 = 0
            lock 5 0 0 = 1
            commit 5 = 0
            lock 6 0 1 = 1
            lock 6 3 2 = 1
            lock 0 3 2 = 1
            lock 6 3 4 = 0
            lock 0 3 4 = 1
            lock 8 0 0 = 1
            lock 8 2 2 = 0
            lock 9 0 0 = 1
            lock 9 4 0 = 1
            lock 9 20 0 = 1
            lock 9 84 2 = 1
            """;

    private static final List<String> BUSY_NEXT = List.of("begin 3", "lock 10 0 0", "lock 10 2 2", "lock 7 0 1",
            "lock 7 1 1", "lock 7 5 2", "escalate 9 4", "commit 1", "escalate 0 1", "commit 0", "commit 2", "commit 3",
            "commit 8", "commit 10", "commit 7", "commit 9", "count 5", "count 6", "count 7");

    public static void main(String[] args) {
        Script.run("the busy state", BUSY);
        Start empty = new Start("with no transactions", List.of(),
                List.of("begin 3", "lock 0 0 4", "commit 0", "count 6"), new int[0], List.of());
        Start busy = new Start("busy", Script.calls(BUSY), BUSY_NEXT, new int[] {0, 0, 1, 1, 3, 2, 3, 0, 1, 0},
                List.of(Map.of(0, 1, 1, 1, 5, 4, 3, 4), Map.of(0, 1, 2, 2), Map.of(0, 1, 1, 1), Map.of(0, 1, 2, 0),
                        Map.of(), Map.of(), Map.of(), Map.of(), Map.of(0, 0), Map.of(0, 0, 4, 0, 20, 0, 84, 2)));
        for (Start start : List.of(empty, busy)) {
            for (String row : rows(start)) {
                check(start, row);
            }
        }
        Start full = full();
        for (String row : rowsOfFull()) {
            check(full, row);
        }
        Script.finish();
    }

    private static Start full() {
        List<String> calls = new ArrayList<>();
        for (int t = 0; t < 60; t++) {
            calls.add("begin " + t);
            calls.add("lock " + t + " 0 " + (t < 30 ? 2 : 1));
        }
        calls.add("abort 59");
        calls.add("commit 0");
        return new Start("full", calls, List.of("begin 3", "commit 1", "abort 58", "count 0"), null, null);
    }

    private static List<String> rowsOfFull() {
        List<String> rows = new ArrayList<>();
        addBegin(rows, 60);
        for (int t : new int[] {LEAST, -1, 60, 61, 64, MOST}) {
            addForTransaction(rows, t, PLACE);
        }
        return rows;
    }

    private static List<String> rows(Start start) {
        List<String> rows = new ArrayList<>();
        int there = start.states.length;
        addBegin(rows, there);
        for (int t : new int[] {LEAST, -64, -1, there, 59, 60, 64, MOST}) {
            addForTransaction(rows, t, PLACE);
        }
        for (int t = 0; t < there; t++) {
            addOf(rows, start, t);
        }
        for (int o : NO_OBJECTS) {
            for (boolean queue : new boolean[] {false, true}) {
                rows.add("many " + o + " " + queue + " = " + PLACE);
                rows.add("at " + o + " 0 " + queue + " = " + PLACE);
                rows.add("at " + o + " -1 " + queue + " = " + PLACE);
            }
        }
        addPlaces(rows, start);
        return rows;
    }

    private static void addBegin(List<String> rows, int there) {
        for (int priority : NO_PRIORITIES) {
            rows.add("begin " + priority + " = " + ARGUMENT);
        }
        if (there == 60) {
            for (int priority : PRIORITIES) {
                rows.add("begin " + priority + " = " + STATE);
            }
        }
    }

    /** All calls that name a transaction, where that alone is enough for an exception: none other may come first. */
    private static void addForTransaction(List<String> rows, int t, String due) {
        for (int o : new int[] {-1, 0, 84, 85}) {
            for (int m : new int[] {-1, 0, 4, 5}) {
                rows.add("lock " + t + " " + o + " " + m + " = " + due);
            }
            rows.add("escalate " + t + " " + o + " = " + due);
            rows.add("mode " + t + " " + o + " = " + due);
        }
        for (int what : new int[] {LEAST, -1, 0, 4, 5, MOST}) {
            rows.add("told " + t + " " + what + " = " + due);
        }
        rows.add("commit " + t + " = " + due);
        rows.add("abort " + t + " = " + due);
        rows.add("waitsFor " + t + " = " + due);
    }

    private static void addOf(List<String> rows, Start start, int t) {
        int state = start.states[t];
        if (state != 0) {
            rows.add("commit " + t + " = " + STATE);
        }
        if (state == 2 || state == 3) {
            rows.add("abort " + t + " = " + STATE);
        }
        for (int what : new int[] {LEAST, -1, 5, MOST}) {
            rows.add("told " + t + " " + what + " = " + ARGUMENT);
        }
        for (int o : NO_OBJECTS) {
            for (int m = -1; m <= 5; m += 3) {
                rows.add("lock " + t + " " + o + " " + m + " = " + PLACE);
            }
            rows.add("escalate " + t + " " + o + " = " + PLACE);
            rows.add("mode " + t + " " + o + " = " + PLACE);
        }
        for (int o : SOME_OBJECTS) {
            addOf(rows, start, t, o);
        }
    }

    private static void addOf(List<String> rows, Start start, int t, int o) {
        Map<Integer, Integer> held = start.held.get(t);
        for (int m : NO_MODES) {
            rows.add("lock " + t + " " + o + " " + m + " = " + ARGUMENT);
        }
        for (int m = 0; m < 5; m++) {
            if (start.states[t] != 0 || !mayAsk(held, o, m)) {
                rows.add("lock " + t + " " + o + " " + m + " = " + STATE);
            }
        }
        if (start.states[t] != 0 || !held.containsKey(o)) {
            rows.add("escalate " + t + " " + o + " = " + STATE);
        }
        // Not refused: a look.
        rows.add("mode " + t + " " + o + " = " + held.getOrDefault(o, -1));
    }

    private static boolean mayAsk(Map<Integer, Integer> held, int o, int m) {
        int above = o == 0 ? 4 : held.getOrDefault((o - 1) / 4, -1);
        return m == 0 || m == 2 ? above >= 0 : above == 1 || above == 3 || above == 4;
    }

    private static void addPlaces(List<String> rows, Start start) {
        for (int o : SOME_OBJECTS) {
            int holders = 0;
            for (Map<Integer, Integer> held : start.held) {
                holders += held.containsKey(o) ? 1 : 0;
            }
            rows.add("many " + o + " false = " + holders);
            for (int i : new int[] {LEAST, -1, holders, holders + 1, MOST}) {
                rows.add("at " + o + " " + i + " false = " + PLACE);
            }
            int waiting = start.held.isEmpty() ? 0 : o == 2 ? 2 : o == 5 ? 1 : 0;
            rows.add("many " + o + " true = " + waiting);
            for (int i : new int[] {LEAST, -1, waiting, waiting + 1, MOST}) {
                rows.add("at " + o + " " + i + " true = " + PLACE);
            }
        }
    }

    private static void check(Start start, String row) {
        LockDesk desk = start.made();
        Script.row(desk, start.name, row);
        String call = row.split(" = ")[0];
        Script.due(start.name + ": what follows " + call, answers(desk, start.next), start.answersNext);
        List<String> calls = new ArrayList<>(start.calls);
        calls.add(call);
        Script.due(start.name + ": the state after " + call, WholeState.after(calls), start.state);
    }

    private static List<String> answers(LockDesk desk, List<String> calls) {
        List<String> answers = new ArrayList<>();
        for (String call : calls) {
            answers.add(Script.answer(desk, call));
        }
        return answers;
    }

    /** A state to start from: the calls that lead to it, some that may follow, and what is known of it. */
    private static final class Start {
        final String name;
        final List<String> calls;
        final List<String> next;
        final int[] states;
        final List<Map<Integer, Integer>> held;
        final List<String> state;
        final List<String> answersNext;

        Start(String name, List<String> calls, List<String> next, int[] states, List<Map<Integer, Integer>> held) {
            this.name = name;
            this.calls = calls;
            this.next = next;
            this.states = states;
            this.held = held;
            state = WholeState.after(calls);
            answersNext = answers(made(), next);
        }

        LockDesk made() {
            LockDesk desk = new LockDesk();
            answers(desk, calls);
            return desk;
        }
    }
}
