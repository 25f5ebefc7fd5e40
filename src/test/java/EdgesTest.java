import java.util.ArrayList;
import java.util.List;

/**
 * The promises 1 to 13: for each sentence that names a boundary case, a test of its own. What the section "Terms"
 * says is tested in TermsTest, that a call that throws changes nothing in RefusedTest.
 */
public final class EdgesTest {
    public static void main(String[] args) {
        noTransactions();
        beginNumbers();
        beginPriorities();
        beginSixty();
        lockOfWhatIsHeld();
        lockGrantedOrWaits();
        lockGivesUpTheLeast();
        lockGivesUpAsLongAs();
        lockAnswersAsItIsThen();
        lockRefused();
        commitCounts();
        commitRefused();
        abortCounts();
        abortRefused();
        escalateModes();
        escalateBelow();
        escalateDoesNotGo();
        escalateAndQueues();
        escalateRefused();
        mode();
        told();
        many();
        at();
        waitsFor();
        countKinds();
        countAtOnceOrLater();
        countOthers();
        astray();
        Script.finish();
    }

    private static void noTransactions() {
        Script.due("1: no transactions: nothing can be read but zeros", WholeState.after(List.of()), nothing());
        LockDesk used = new LockDesk();
        Script.row(used, "1: a new object beside a used one", "begin 1 = 0");
        Script.row(used, "1: a new object beside a used one", "lock 0 0 4 = 1");
        LockDesk fresh = new LockDesk();
        Script.row(fresh, "1: a new object beside a used one", "count 0 = 0");
        Script.row(fresh, "1: a new object beside a used one", "many 0 false = 0");
        Script.row(fresh, "1: a new object beside a used one", "begin 2 = 0");
        Script.row(fresh, "1: a new object beside a used one", "lock 0 0 4 = 1");
        Script.row(used, "1: a new object beside a used one", "told 0 1 = 1");
        for (String call : List.of("lock 0 0 0", "commit 0", "abort 0", "escalate 0 0", "mode 0 0", "told 0 0",
                "waitsFor 0", "at 0 0 false", "at 0 0 true", "at 84 0 false")) {
            Script.run("1: no transactions", call + " = IndexOutOfBounds");
        }
    }

    private static List<String> nothing() {
        List<String> rows = new ArrayList<>(List.of("astray = 0"));
        for (int what = 7; what >= 0; what--) {
            rows.add("count " + what + " = 0");
        }
        rows.add("count 0 = 0");
        for (int o = 0; o < 85; o++) {
            rows.add("many " + o + " false = 0");
            rows.add("many " + o + " true = 0");
        }
        return rows;
    }

    private static void beginNumbers() {
        Script.run("2: a new transaction, active, that holds nothing and waits for nothing", """
                begin 7 = 0
                told 0 0 = 0
                told 0 1 = 7
                told 0 2 = 0
                told 0 3 = -1
                told 0 4 = -1
                waitsFor 0 = 0
                mode 0 0 = -1
                mode 0 84 = -1
                many 0 false = 0
                many 0 true = 0
                count 0 = 1
                count 1 = 1
                count 6 = 0
                """);
        Script.run("2: its number is a new one, also when others have ended", """
                begin 7 = 0
                begin 7 = 1
                commit 0 = 0
                begin 7 = 2
                abort 2 = 0
                begin 7 = 3
                told 0 0 = 2
                told 2 0 = 3
                told 3 0 = 0
                """);
    }

    private static void beginPriorities() {
        for (int priority : new int[] {0, 1, 50, 98, 99}) {
            Script.run("2: the priority is 0 .. 99", "begin " + priority + " = 0\ntold 0 1 = " + priority);
        }
        for (int priority : new int[] {-1, -99, 100, 101, 256, Integer.MIN_VALUE, Integer.MAX_VALUE}) {
            Script.run("2: the priority is not 0 .. 99", "begin " + priority + " = IllegalArgument\ncount 0 = 0"
                    + "\ntold 0 0 = IndexOutOfBounds\nbegin 3 = 0\ntold 0 1 = 3");
        }
    }

    private static void beginSixty() {
        List<String> script = begins(60);
        script.add("count 0 = 60");
        script.add("begin 0 = IllegalState");
        script.add("begin 99 = IllegalState");
        script.add("begin 100 = IllegalArgument");
        script.add("count 0 = 60");
        script.add("told 59 0 = 0");
        script.add("told 60 0 = IndexOutOfBounds");
        Script.run("2: there are 60", script);
        List<String> ended = begins(60);
        for (int t = 0; t < 60; t++) {
            ended.add((t % 2 == 0 ? "commit " : "abort ") + t + " = 0");
        }
        ended.add("begin 1 = IllegalState");
        ended.add("count 3 = 30");
        ended.add("count 4 = 30");
        Script.run("2: there are 60, though all have ended", ended);
    }

    private static List<String> begins(int many) {
        List<String> script = new ArrayList<>();
        for (int t = 0; t < many; t++) {
            script.add("begin 1 = " + t);
        }
        return script;
    }

    private static void lockOfWhatIsHeld() {
        int[][] less = {{0}, {0, 1}, {0, 2}, {0, 1, 2, 3}, {0, 1, 2, 3, 4}};
        for (int held = 0; held < 5; held++) {
            for (int asked : less[held]) {
                // Others wait for the object: one that holds what it wants has no request among these.
                List<String> before = List.of("begin 1", "begin 0", "begin 0", "lock 0 0 " + held, "lock 1 0 0",
                        "lock 2 0 4");
                List<String> after = new ArrayList<>(before);
                after.add("lock 0 0 " + asked);
                LockDesk desk = new LockDesk();
                before.forEach(call -> Script.answer(desk, call));
                Script.row(desk, "3: granted, if it holds what it wants", "lock 0 0 " + asked + " = 1");
                Script.due("3: granted, if it holds what it wants: and all is as it was", WholeState.after(after),
                        WholeState.after(before));
            }
        }
    }

    private static void lockGrantedOrWaits() {
        Script.run("3: else its request comes to the queue, and the object is served: granted", """
                begin 1 = 0
                lock 0 0 2 = 1
                told 0 0 = 0
                told 0 3 = -1
                told 0 4 = -1
                many 0 true = 0
                mode 0 0 = 2
                """);
        Script.run("3: if it is not, it is waiting", """
                begin 1 = 0
                begin 1 = 1
                lock 0 0 2 = 1
                lock 1 0 1 = 0
                told 1 0 = 1
                told 1 3 = 0
                told 1 4 = 1
                many 0 true = 1
                at 0 0 true = 1
                mode 1 0 = -1
                count 2 = 1
                """);
        Script.run("3: what goes together waits, if another request is the first", """
                begin 1 = 0
                begin 1 = 1
                begin 1 = 2
                lock 0 0 2 = 1
                lock 1 0 4 = 0
                lock 2 0 2 = 0
                told 2 0 = 1
                mode 2 0 = -1
                """);
        Script.run("3: one that holds the object is granted, though others wait", """
                begin 1 = 0
                begin 1 = 1
                begin 1 = 2
                lock 0 0 0 = 1
                lock 1 0 4 = 0
                lock 2 0 4 = 0
                lock 0 0 4 = 1
                mode 0 0 = 4
                many 0 true = 2
                """);
    }

    /** Two or three in a circle, each with its object; 0 asks last. */
    private static void lockGivesUpTheLeast() {
        String two = """
                begin %d = 0
                begin %d = 1
                lock 0 0 1 = 1
                lock 1 0 1 = 1
                lock 0 1 4 = 1
                lock 1 2 4 = 1
                lock 1 1 4 = 0
                lock 0 2 4 = %s
                told 0 0 = %d
                told 1 0 = %d
                count 4 = 1
                count 5 = 1
                """;
        Script.run("3: the one with the least priority", String.format(two, 0, 99, "-1", 3, 0));
        Script.run("3: the one with the least priority", String.format(two, 99, 0, "1", 0, 3));
        Script.run("3: the one with the least priority", String.format(two, 98, 99, "-1", 3, 0));
        Script.run("3: of several with the greatest number", String.format(two, 0, 0, "1", 0, 3));
        Script.run("3: of several with the greatest number", String.format(two, 99, 99, "1", 0, 3));
        String three = """
                begin %d = 0
                begin %d = 1
                begin %d = 2
                lock 0 0 1 = 1
                lock 1 0 1 = 1
                lock 2 0 1 = 1
                lock 0 1 4 = 1
                lock 1 2 4 = 1
                lock 2 3 4 = 1
                lock 2 1 4 = 0
                lock 1 3 4 = 0
                lock 0 2 4 = %s
                told %d 0 = 3
                count 4 = 1
                count 1 = 1
                """;
        Script.run("3: the one with the least priority, of three", String.format(three, 1, 2, 3, "-1", 0));
        Script.run("3: the one with the least priority, of three", String.format(three, 2, 1, 3, "1", 1));
        Script.run("3: the one with the least priority, of three", String.format(three, 3, 2, 1, "0", 2));
        Script.run("3: of several with the greatest number, of three", String.format(three, 1, 1, 2, "1", 1));
        Script.run("3: of several with the greatest number, of three", String.format(three, 1, 2, 1, "0", 2));
        Script.run("3: of several with the greatest number, of three", String.format(three, 2, 1, 1, "0", 2));
        Script.run("3: of several with the greatest number, of three", String.format(three, 1, 1, 1, "0", 2));
    }

    /** 0 asks for an object that all of the others hold; each of them waits for 0. */
    private static void lockGivesUpAsLongAs() {
        for (int others : new int[] {1, 2, 5, 59}) {
            List<String> script = new ArrayList<>(List.of("begin 99 = 0", "lock 0 0 1 = 1", "lock 0 1 4 = 1"));
            for (int t = 1; t <= others; t++) {
                script.add("begin " + t + " = " + t);
                script.add("lock " + t + " 0 1 = 1");
                script.add("lock " + t + " 2 2 = 1");
                script.add("lock " + t + " 1 4 = 0");
            }
            script.add("lock 0 2 4 = 1");
            script.add("count 4 = " + others);
            script.add("count 5 = " + others);
            script.add("count 1 = 1");
            script.add("many 1 true = 0");
            script.add("mode 0 2 = 4");
            Script.run("3: as long as it waits, and is in a circle: " + others, script);
        }
        Script.run("3: as long as it waits, and is in a circle: it waits, but is in none any more", """
                begin 99 = 0
                begin 1 = 1
                begin 0 = 2
                lock 0 0 1 = 1
                lock 1 0 1 = 1
                lock 2 0 1 = 1
                lock 0 1 4 = 1
                lock 1 2 2 = 1
                lock 2 2 2 = 1
                lock 1 1 4 = 0
                lock 0 2 4 = 0
                told 1 0 = 3
                told 2 0 = 0
                told 0 0 = 1
                waitsFor 0 = 4
                count 5 = 1
                commit 2 = 1
                mode 0 2 = 4
                """);
        Script.run("3: as long as it waits: it is given up itself, and the others stay", """
                begin 5 = 0
                begin 7 = 1
                begin 6 = 2
                lock 0 0 1 = 1
                lock 1 0 1 = 1
                lock 2 0 1 = 1
                lock 0 1 4 = 1
                lock 1 2 2 = 1
                lock 2 2 2 = 1
                lock 1 1 2 = 0
                lock 2 1 2 = 0
                lock 0 2 4 = -1
                told 1 0 = 0
                told 2 0 = 0
                count 5 = 1
                count 7 = 2
                """);
    }

    private static void lockAnswersAsItIsThen() {
        Script.run("3: aborted, and it ends: what it held is free, its request is gone", """
                begin 1 = 0
                begin 2 = 1
                begin 3 = 2
                lock 0 0 1 = 1
                lock 1 0 1 = 1
                lock 2 0 1 = 1
                lock 0 1 4 = 1
                lock 1 2 4 = 1
                lock 2 1 2 = 0
                lock 1 1 2 = 0
                lock 0 2 4 = -1
                told 0 0 = 3
                told 0 2 = 0
                told 0 3 = -1
                told 0 4 = -1
                many 2 true = 0
                mode 2 1 = 2
                mode 1 1 = 2
                lock 0 0 0 = IllegalState
                abort 0 = IllegalState
                commit 0 = IllegalState
                """);
    }

    private static void lockRefused() {
        for (int mode : new int[] {-1, 5, 6, Integer.MIN_VALUE, Integer.MAX_VALUE}) {
            Script.run("3: there is no such mode", "begin 1 = 0\nlock 0 0 " + mode + " = IllegalArgument\nmode 0 0 = -1"
                    + "\nlock 0 0 4 = 1\nlock 0 0 " + mode + " = IllegalArgument\nmode 0 0 = 4");
        }
        Script.run("3: it is not active: it waits", """
                begin 1 = 0
                begin 1 = 1
                lock 0 0 2 = 1
                lock 1 0 0 = 1
                lock 1 0 1 = 0
                lock 1 0 0 = IllegalState
                lock 1 0 1 = IllegalState
                lock 1 1 0 = IllegalState
                many 0 true = 1
                told 1 4 = 1
                """);
        Script.run("3: it is not active: it is committed", "begin 1 = 0\nlock 0 0 4 = 1\ncommit 0 = 0\n"
                + "lock 0 0 0 = IllegalState\nmany 0 false = 0");
        Script.run("3: it is not active: it is aborted", "begin 1 = 0\nlock 0 0 4 = 1\nabort 0 = 0\n"
                + "lock 0 0 0 = IllegalState\nmany 0 false = 0");
        Script.run("3: it does not hold the object above", "begin 1 = 0\nlock 0 1 0 = IllegalState\n"
                + "lock 0 0 4 = 1\nlock 0 5 0 = IllegalState\nlock 0 84 0 = IllegalState\nlock 0 4 0 = 1");
        Script.run("3: it does not hold the object above as it must", "begin 1 = 0\nlock 0 0 2 = 1\n"
                + "lock 0 1 1 = IllegalState\nlock 0 1 3 = IllegalState\nlock 0 1 4 = IllegalState\nlock 0 1 2 = 1");
    }

    private static void commitCounts() {
        Script.run("4: none was granted thereby", """
                begin 1 = 0
                begin 1 = 1
                begin 1 = 2
                commit 0 = 0
                lock 1 0 0 = 1
                lock 2 0 0 = 1
                commit 1 = 0
                told 1 0 = 2
                """);
        Script.run("4: none, as another one is in the way, too", """
                begin 1 = 0
                begin 1 = 1
                begin 1 = 2
                lock 0 0 2 = 1
                lock 1 0 2 = 1
                lock 2 0 1 = 0
                commit 0 = 0
                waitsFor 2 = 2
                commit 1 = 1
                """);
        Script.run("4: requests for several objects", """
                begin 1 = 0
                begin 1 = 1
                begin 1 = 2
                begin 1 = 3
                lock 0 0 1 = 1
                lock 1 0 1 = 1
                lock 2 0 1 = 1
                lock 3 0 1 = 1
                lock 0 1 4 = 1
                lock 0 4 4 = 1
                lock 1 4 2 = 0
                lock 2 1 4 = 0
                lock 3 4 2 = 0
                commit 0 = 3
                count 7 = 3
                count 3 = 1
                """);
        List<String> all = begins(60);
        for (int t = 0; t < 60; t++) {
            all.add("lock " + t + " 0 " + (t == 0 ? "4 = 1" : "1 = 0"));
        }
        all.add("commit 0 = 59");
        all.add("many 0 false = 59");
        Script.run("4: all the others", all);
    }

    private static void commitRefused() {
        Script.run("4: it is not active", """
                begin 1 = 0
                begin 1 = 1
                lock 0 0 4 = 1
                lock 1 0 4 = 0
                commit 1 = IllegalState
                told 1 0 = 1
                many 0 true = 1
                commit 0 = 1
                commit 0 = IllegalState
                abort 1 = 0
                commit 1 = IllegalState
                told 1 0 = 3
                count 3 = 1
                count 4 = 1
                """);
    }

    private static void abortCounts() {
        Script.run("5: one that is active", """
                begin 1 = 0
                begin 1 = 1
                lock 0 0 4 = 1
                lock 1 0 4 = 0
                abort 0 = 1
                told 0 0 = 3
                mode 1 0 = 4
                count 4 = 1
                count 5 = 0
                """);
        Script.run("5: one that waits: those behind it are granted, and those for what it held", """
                begin 1 = 0
                begin 1 = 1
                begin 1 = 2
                begin 1 = 3
                begin 1 = 4
                lock 0 0 1 = 1
                lock 1 0 1 = 1
                lock 2 0 1 = 1
                lock 3 0 1 = 1
                lock 4 0 1 = 1
                lock 0 3 2 = 1
                lock 1 1 4 = 1
                lock 1 3 4 = 0
                lock 2 3 2 = 0
                lock 3 1 2 = 0
                lock 4 3 0 = 0
                abort 1 = 3
                told 1 0 = 3
                told 1 2 = 0
                told 1 3 = -1
                told 1 4 = -1
                count 2 = 0
                count 7 = 3
                """);
        Script.run("5: none was granted thereby", "begin 1 = 0\nabort 0 = 0\ncount 4 = 1\ncount 7 = 0");
    }

    private static void abortRefused() {
        Script.run("5: it is neither active nor waiting", """
                begin 1 = 0
                begin 1 = 1
                abort 0 = 0
                abort 0 = IllegalState
                commit 1 = 0
                abort 1 = IllegalState
                told 0 0 = 3
                told 1 0 = 2
                count 3 = 1
                count 4 = 1
                """);
    }

    private static void escalateModes() {
        int[] withS = {2, 3, 2, 3, 4};
        for (int held = 0; held < 5; held++) {
            Script.run("6: S, if there is none below", "begin 1 = 0\nlock 0 0 " + held + " = 1\nescalate 0 0 = 0"
                    + "\nmode 0 0 = " + withS[held] + "\ntold 0 2 = 1");
            for (int below = 0; below < 5; below++) {
                boolean writes = below == 1 || below == 3 || below == 4;
                if (writes && (held == 0 || held == 2)) {
                    continue;
                }
                Script.run("6: X, if any of these is IX, SIX or X, else S", "begin 1 = 0\nlock 0 0 " + held
                        + " = 1\nlock 0 4 " + below + " = 1\nescalate 0 0 = 1\nmode 0 0 = "
                        + (writes ? 4 : withS[held]) + "\nmode 0 4 = -1\ntold 0 2 = 1");
                Script.run("6: if any: the first of several", "begin 1 = 0\nlock 0 0 " + held + " = 1\nlock 0 1 "
                        + below + " = 1\nlock 0 2 0 = 1\nlock 0 3 2 = 1\nescalate 0 0 = 3\nmode 0 0 = "
                        + (writes ? 4 : withS[held]));
                Script.run("6: if any: the last of several", "begin 1 = 0\nlock 0 0 " + held + " = 1\nlock 0 2 "
                        + "0 = 1\nlock 0 3 2 = 1\nlock 0 4 " + below + " = 1\nescalate 0 0 = 3\nmode 0 0 = "
                        + (writes ? 4 : withS[held]));
            }
        }
    }

    private static void escalateBelow() {
        List<String> script = new ArrayList<>(List.of("begin 1 = 0"));
        for (int o = 0; o < 85; o++) {
            script.add("lock 0 " + o + " 1 = 1");
        }
        script.add("told 0 2 = 85");
        List<String> whole = new ArrayList<>(script);
        whole.addAll(List.of("escalate 0 0 = 84", "told 0 2 = 1", "mode 0 0 = 4", "mode 0 84 = -1", "mode 0 1 = -1"));
        Script.run("6: below those below it, too: all", whole);
        for (int o = 1; o < 85; o++) {
            List<String> part = new ArrayList<>(script);
            int lower = o < 5 ? 20 : o < 21 ? 4 : 0;
            part.add("escalate 0 " + o + " = " + lower);
            part.add("told 0 2 = " + (85 - lower));
            part.add("mode 0 " + o + " = " + (lower == 0 ? 3 : 4));
            for (int p = 0; p < 85; p++) {
                boolean below = p > o && ((p - 1) / 4 == o || ((p - 1) / 4 - 1) / 4 == o && p > 20);
                if (p != o) {
                    part.add("mode 0 " + p + " = " + (below ? -1 : 1));
                }
            }
            part.add("escalate 0 " + o + " = 0");
            Script.run("6: below an object, and below those below it, and no others", part);
        }
        Script.run("6: what others hold below stays", """
                begin 1 = 0
                begin 1 = 1
                lock 0 0 0 = 1
                lock 1 0 0 = 1
                lock 0 1 2 = 1
                lock 1 1 2 = 1
                escalate 0 0 = 1
                mode 1 0 = 0
                mode 1 1 = 2
                mode 0 1 = -1
                many 1 false = 1
                """);
    }

    private static void escalateDoesNotGo() {
        String[] together = {"11110", "11000", "10100", "10000", "00000"};
        for (int other = 0; other < 4; other++) {
            for (int held = 0; held < 4; held++) {
                if (together[held].charAt(other) == '0') {
                    continue;
                }
                List<String> before = List.of("begin 1", "begin 1", "lock 1 0 " + other, "lock 0 0 " + held,
                        "lock 0 1 0", "lock 0 5 2");
                int wants = held == 1 || held == 3 ? 3 : 2;
                boolean goes = together[wants].charAt(other) == '1';
                LockDesk desk = new LockDesk();
                before.forEach(call -> Script.answer(desk, call));
                Script.row(desk, "6: none, if it does not go", "escalate 0 0 = " + (goes ? 2 : -1));
                Script.row(desk, "6: none, if it does not go", "mode 0 0 = " + (goes ? wants : held));
                List<String> after = new ArrayList<>(before);
                after.add("escalate 0 0");
                Script.due("6: none, if it does not go: then all is as it was, " + held + " beside " + other,
                        WholeState.after(after).equals(WholeState.after(before)), !goes);
            }
        }
        Script.run("6: X goes with no other one", """
                begin 1 = 0
                begin 1 = 1
                lock 0 0 1 = 1
                lock 0 1 4 = 1
                lock 1 0 0 = 1
                escalate 0 0 = -1
                mode 0 1 = 4
                mode 0 0 = 1
                commit 1 = 0
                escalate 0 0 = 1
                mode 0 0 = 4
                """);
    }

    private static void escalateAndQueues() {
        Script.run("6: requests of others do not count, and stay", """
                begin 1 = 0
                begin 1 = 1
                lock 0 0 1 = 1
                lock 0 1 2 = 1
                lock 1 0 2 = 0
                escalate 0 0 = 1
                mode 0 0 = 3
                told 1 0 = 1
                at 0 0 true = 1
                waitsFor 1 = 1
                commit 0 = 1
                astray = 0
                """);
        Script.run("6: requests for those below stay, if others are in their way", """
                begin 1 = 0
                begin 1 = 1
                begin 1 = 2
                lock 0 0 1 = 1
                lock 1 0 0 = 1
                lock 2 0 1 = 1
                lock 0 1 0 = 1
                lock 1 1 2 = 1
                lock 2 1 1 = 0
                escalate 0 1 = 0
                mode 0 1 = 2
                waitsFor 2 = 3
                astray = 0
                """);
    }

    private static void escalateRefused() {
        Script.run("6: it is not active", """
                begin 1 = 0
                begin 1 = 1
                lock 0 0 2 = 1
                lock 1 0 0 = 1
                lock 1 1 2 = 1
                lock 1 0 1 = 0
                escalate 1 0 = IllegalState
                mode 1 0 = 0
                mode 1 1 = 2
                commit 0 = 1
                commit 1 = 0
                escalate 1 0 = IllegalState
                begin 1 = 2
                lock 2 0 0 = 1
                abort 2 = 0
                escalate 2 0 = IllegalState
                """);
        Script.run("6: it does not hold the object", """
                begin 1 = 0
                escalate 0 0 = IllegalState
                lock 0 0 4 = 1
                escalate 0 1 = IllegalState
                escalate 0 84 = IllegalState
                lock 0 1 4 = 1
                lock 0 5 4 = 1
                escalate 0 0 = 2
                escalate 0 1 = IllegalState
                """);
    }

    private static void mode() {
        for (int mode = 0; mode < 5; mode++) {
            Script.run("7: the mode in which it holds an object", "begin 1 = 0\nbegin 1 = 1\nmode 0 0 = -1\nlock 0 0 "
                    + mode + " = 1\nmode 0 0 = " + mode + "\nmode 1 0 = -1\nmode 0 1 = -1\ncommit 0 = 0\nmode 0 0 = -1");
        }
        Script.run("7: none, while it waits for what it does not hold", "begin 1 = 0\nbegin 1 = 1\nlock 0 0 4 = 1\n"
                + "lock 1 0 4 = 0\nmode 1 0 = -1\nabort 0 = 1\nmode 1 0 = 4");
    }

    private static void told() {
        for (int what : new int[] {-1, 5, 6, Integer.MIN_VALUE, Integer.MAX_VALUE}) {
            Script.run("8: what is none of these", "begin 1 = 0\ntold 0 " + what + " = IllegalArgument\ntold 1 " + what
                    + " = IndexOutOfBounds");
        }
        Script.run("8: how many objects it holds: not what it waits for", """
                begin 1 = 0
                begin 1 = 1
                told 1 2 = 0
                lock 0 0 1 = 1
                lock 1 0 1 = 1
                lock 0 1 4 = 1
                told 1 2 = 1
                lock 1 1 4 = 0
                told 1 2 = 1
                commit 0 = 1
                told 1 2 = 2
                """);
        Script.run("8: the object that it waits for, and the mode that it wants, may be 0", """
                begin 1 = 0
                begin 1 = 1
                lock 0 0 4 = 1
                lock 1 0 0 = 0
                told 1 3 = 0
                told 1 4 = 0
                told 0 3 = -1
                told 0 4 = -1
                commit 0 = 1
                told 1 3 = -1
                told 1 4 = -1
                """);
        Script.run("8: the priority of one that has ended", "begin 98 = 0\nabort 0 = 0\ntold 0 1 = 98\ntold 0 3 = -1");
    }

    private static void many() {
        List<String> script = begins(60);
        for (int t = 0; t < 60; t++) {
            script.add("lock " + t + " 0 0 = 1");
        }
        script.addAll(List.of("many 0 false = 60", "many 0 true = 0", "lock 59 0 4 = 0", "many 0 false = 60",
                "many 0 true = 1", "many 84 false = 0", "many 84 true = 0"));
        Script.run("9: sixty hold an object, and one of them waits for it", script);
        List<String> queue = begins(60);
        for (int t = 0; t < 60; t++) {
            queue.add("lock " + t + " 0 4 = " + (t == 0 ? 1 : 0));
        }
        queue.addAll(List.of("many 0 false = 1", "many 0 true = 59"));
        Script.run("9: one holds an object, and all others wait for it", queue);
    }

    private static void at() {
        List<String> script = begins(60);
        for (int t = 59; t >= 0; t--) {
            script.add("lock " + t + " 0 0 = 1");
        }
        for (int i = 0; i < 60; i++) {
            script.add("at 0 " + i + " false = " + i);
        }
        script.add("at 0 60 false = IndexOutOfBounds");
        Script.run("10: by numbers, not as they came", script);
        List<String> queue = begins(60);
        for (int t = 59; t >= 0; t--) {
            queue.add("lock " + t + " 0 4 = " + (t == 59 ? 1 : 0));
        }
        for (int i = 0; i < 59; i++) {
            queue.add("at 0 " + i + " true = " + (58 - i));
        }
        queue.add("at 0 59 true = IndexOutOfBounds");
        Script.run("10: in its queue, as they came", queue);
        for (int i : new int[] {-1, 1, 2, 60, Integer.MIN_VALUE, Integer.MAX_VALUE}) {
            Script.run("10: there is no such place", "begin 1 = 0\nbegin 1 = 1\nlock 0 0 4 = 1\nlock 1 0 4 = 0\nat 0 "
                    + i + " false = IndexOutOfBounds\nat 0 " + i + " true = IndexOutOfBounds\nat 0 0 false = 0"
                    + "\nat 0 0 true = 1");
        }
        Script.run("10: there is no such place, as nobody is there", "begin 1 = 0\nat 0 0 false = IndexOutOfBounds\n"
                + "at 0 0 true = IndexOutOfBounds\nlock 0 0 4 = 1\nat 0 0 true = IndexOutOfBounds\n"
                + "at 84 0 false = IndexOutOfBounds");
    }

    private static void waitsFor() {
        List<String> script = begins(60);
        for (int t = 0; t < 60; t++) {
            script.add("lock " + t + " 0 4 = " + (t == 0 ? 1 : 0));
        }
        for (int t = 0; t < 60; t++) {
            script.add("waitsFor " + t + " = " + ((1L << t) - 1));
        }
        Script.run("11: as bits, up to the greatest number", script);
        List<String> holders = begins(60);
        for (int t = 1; t < 60; t++) {
            holders.add("lock " + t + " 0 2 = 1");
        }
        holders.add("lock 0 0 1 = 0");
        holders.add("waitsFor 0 = " + ((1L << 60) - 2));
        holders.add("abort 59 = 0");
        holders.add("waitsFor 0 = " + ((1L << 59) - 2));
        Script.run("11: as bits, all that hold the object", holders);
        Script.run("11: none, for one that does not wait", "begin 1 = 0\nbegin 1 = 1\nwaitsFor 0 = 0\nlock 0 0 4 = 1\n"
                + "lock 1 0 4 = 0\nwaitsFor 0 = 0\nwaitsFor 1 = 1\nabort 1 = 0\nwaitsFor 1 = 0\ncommit 0 = 0\n"
                + "waitsFor 0 = 0");
    }

    private static void countKinds() {
        Script.run("12: how many there are, whatever has become of them", """
                begin 1 = 0
                begin 2 = 1
                begin 3 = 2
                begin 4 = 3
                begin 5 = 4
                lock 0 0 2 = 1
                lock 1 0 2 = 1
                lock 2 0 4 = 0
                commit 3 = 0
                abort 4 = 0
                count 0 = 5
                count 1 = 2
                count 2 = 1
                count 3 = 1
                count 4 = 1
                count 5 = 0
                lock 1 0 1 = 0
                count 1 = 1
                count 2 = 2
                lock 0 0 4 = -1
                count 1 = 1
                count 2 = 1
                count 3 = 1
                count 4 = 2
                count 5 = 1
                abort 2 = 0
                count 2 = 0
                count 4 = 3
                count 5 = 1
                """);
    }

    private static void countAtOnceOrLater() {
        Script.run("12: requests that were granted at once, or later", """
                begin 1 = 0
                begin 1 = 1
                begin 1 = 2
                count 6 = 0
                lock 0 0 0 = 1
                count 6 = 1
                lock 0 0 2 = 1
                count 6 = 2
                lock 0 0 5 = IllegalArgument
                lock 0 5 0 = IllegalState
                count 6 = 2
                lock 1 0 1 = 0
                lock 2 0 2 = 0
                count 6 = 2
                count 7 = 0
                abort 1 = 1
                count 6 = 2
                count 7 = 1
                commit 0 = 0
                count 7 = 1
                """);
        Script.run("12: a request that is never granted is neither", """
                begin 1 = 0
                begin 1 = 1
                lock 0 0 4 = 1
                lock 1 0 4 = 0
                abort 1 = 0
                commit 0 = 0
                count 6 = 1
                count 7 = 0
                """);
        Script.run("12: escalate() makes no request", """
                begin 1 = 0
                lock 0 0 1 = 1
                lock 0 1 2 = 1
                escalate 0 0 = 1
                count 6 = 2
                count 7 = 0
                """);
        Script.run("12: granted when a circle is broken is later", """
                begin 2 = 0
                begin 1 = 1
                lock 0 0 2 = 1
                lock 1 0 2 = 1
                lock 1 0 4 = 0
                lock 0 0 4 = 1
                count 6 = 2
                count 7 = 1
                """);
    }

    private static void countOthers() {
        for (int what : new int[] {-1, 8, 9, Integer.MIN_VALUE, Integer.MAX_VALUE}) {
            Script.run("12: none for another what", "count " + what + " = -1\nbegin 1 = 0\ncount " + what + " = -1");
        }
        List<String> script = begins(60);
        script.addAll(List.of("count 0 = 60", "count 1 = 60", "count 2 = 0", "count 3 = 0", "count 4 = 0"));
        Script.run("12: sixty", script);
    }

    private static void astray() {
        Script.run("13: none of an object that is held by several, and asked for by several", """
                begin 9 = 0
                begin 8 = 1
                begin 7 = 2
                begin 6 = 3
                astray = 0
                lock 0 0 0 = 1
                lock 1 0 1 = 1
                astray = 0
                lock 2 0 2 = 0
                astray = 0
                lock 3 0 0 = 0
                astray = 0
                lock 0 0 4 = 0
                astray = 0
                abort 0 = 0
                astray = 0
                commit 1 = 2
                astray = 0
                """);
    }
}
