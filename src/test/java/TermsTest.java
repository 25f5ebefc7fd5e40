import java.util.ArrayList;
import java.util.List;

/** The section "Terms" of the document: for each of its sentences, a test of its own at the sentence's edges. */
public final class TermsTest {
    private static final String[] TOGETHER = {"11110", "11000", "10100", "10000", "00000"};
    private static final int[][] LEAST_ABOVE = {
        {0, 1, 2, 3, 4}, {1, 1, 3, 3, 4}, {2, 3, 2, 3, 4}, {3, 3, 3, 3, 4}, {4, 4, 4, 4, 4}};

    public static void main(String[] args) {
        calls512();
        objects();
        objectsAbove();
        transactions();
        states();
        goTogether();
        goTogetherWithEach();
        leastAbove();
        oneModeAtMost();
        heldUntilTheEnd();
        mayAsk();
        mayAskOnlyWhile();
        wants();
        queueOfBothKinds();
        queuesOfTwoObjects();
        served();
        waitsFor();
        circles();
        theCircleIsAll();
        circleOfSixty();
        ends();
        theFirstException();
        Script.finish();
    }

    private static void calls512() {
        List<String> script = new ArrayList<>(List.of("begin 1 = 0", "begin 1 = 1", "lock 0 0 1 = 1", "lock 1 0 1 = 1"));
        for (int i = 0; script.size() < 505; i++) {
            int object = i % 4 + 1;
            script.add(i < 4 ? "lock 0 " + object + " 4 = 1" : "mode 0 " + object + " = 4");
        }
        script.addAll(List.of("begin 1 = 2", "lock 1 1 4 = 0", "lock 2 0 4 = 0", "at 0 0 true = 2", "commit 0 = 1",
                "commit 1 = 1", "mode 2 0 = 4"));
        Script.due("an object is used for at most 512 calls: so many are made", script.size(), 512);
        Script.run("an object is used for at most 512 calls: the last ones", script);
    }

    private static void objects() {
        String[] calls = {"lock 0 %d 0", "escalate 0 %d", "mode 0 %d", "many %d false", "many %d true",
            "at %d 0 false", "at %d 0 true"};
        for (String call : calls) {
            for (int none : new int[] {-1, 85, 86, 128, 256, 340, Integer.MIN_VALUE, Integer.MAX_VALUE, 858993460}) {
                Script.run("objects are 0 .. 84", "begin 1 = 0\nlock 0 0 0 = 1\n" + String.format(call, none)
                        + " = IndexOutOfBounds");
            }
        }
        for (int object : new int[] {0, 84}) {
            List<String> script = new ArrayList<>(List.of("begin 1 = 0", "begin 1 = 1"));
            for (String row : List.of("lock 0 0 1 = 1", "lock 1 0 1 = 1", "lock 0 4 1 = 1", "lock 1 4 1 = 1",
                    "lock 0 20 1 = 1", "lock 1 20 1 = 1")) {
                if (object == 84) {
                    script.add(row);
                }
            }
            for (String row : List.of("lock 0 %d 4 = 1", "lock 1 %d 4 = 0", "mode 0 %d = 4", "many %d false = 1",
                    "many %d true = 1", "at %d 0 false = 0", "at %d 0 true = 1", "escalate 0 %d = 0")) {
                script.add(String.format(row, object));
            }
            script.add("told 1 3 = " + object);
            Script.run("objects are 0 .. 84: the first and the last", script);
        }
    }

    /** For each object: all that stands neither at nor below the one above it is not enough; that one is. */
    private static void objectsAbove() {
        int[] above = new int[85];
        for (int o = 0; o <= 20; o++) {
            for (int child = 1; child <= 4; child++) {
                above[4 * o + child] = o;
            }
        }
        for (int o = 1; o <= 84; o++) {
            List<String> script = new ArrayList<>(List.of("begin 1 = 0"));
            for (int p = 0; p <= 84; p++) {
                boolean under = false;
                for (int q = p; q > 0; q = above[q]) {
                    under |= q == above[o];
                }
                if (above[o] != 0 && !under) {
                    script.add("lock 0 " + p + " 1 = 1");
                }
            }
            script.add("lock 0 " + o + " 0 = IllegalState");
            script.add("lock 0 " + above[o] + " 1 = 1");
            script.add("lock 0 " + o + " 4 = 1");
            Script.run("0 is above 1 to 4, o above 4 o + 1 to 4 o + 4", script);
        }
    }

    private static void transactions() {
        String[] calls = {"lock %d 0 0", "commit %d", "abort %d", "escalate %d 0", "mode %d 0", "told %d 0",
            "waitsFor %d"};
        for (String call : calls) {
            for (int there : new int[] {0, 1, 2, 31, 32, 33, 59, 60}) {
                for (int none : new int[] {-1, there, there + 1, 64, Integer.MIN_VALUE, Integer.MAX_VALUE}) {
                    List<String> script = begins(there);
                    script.add(String.format(call, none) + " = IndexOutOfBounds");
                    Script.run("numbers are 0, 1, ..", script);
                }
            }
        }
        for (int last : new int[] {0, 31, 32, 59}) {
            List<String> script = begins(last + 1);
            script.addAll(List.of("lock " + last + " 0 4 = 1", "mode " + last + " 0 = 4", "told " + last + " 2 = 1",
                    "at 0 0 false = " + last, "waitsFor " + last + " = 0", "escalate " + last + " 0 = 0",
                    "commit " + last + " = 0", "told " + last + " 0 = 2"));
            Script.run("numbers are 0, 1, ..: the last one", script);
        }
    }

    private static List<String> begins(int many) {
        List<String> script = new ArrayList<>();
        for (int t = 0; t < many; t++) {
            script.add("begin " + t + " = " + t);
        }
        return script;
    }

    private static void states() {
        Script.run("active (0), waiting (1), committed (2) or aborted (3)", """
                begin 1 = 0
                told 0 0 = 0
                begin 1 = 1
                lock 0 0 4 = 1
                told 0 0 = 0
                lock 1 0 4 = 0
                told 1 0 = 1
                commit 0 = 1
                told 0 0 = 2
                told 1 0 = 0
                abort 1 = 0
                told 1 0 = 3
                """);
    }

    private static void goTogether() {
        for (int held = 0; held < 5; held++) {
            for (int asked = 0; asked < 5; asked++) {
                char answer = TOGETHER[held].charAt(asked);
                Script.run("what goes together, and no others", "begin 1 = 0\nbegin 1 = 1\nlock 1 0 " + held
                        + " = 1\nlock 0 0 " + asked + " = " + answer + "\nwaitsFor 0 = " + (answer == '1' ? 0 : 2)
                        + "\nmany 0 false = " + (answer == '1' ? 2 : 1) + "\nmany 0 true = " + (answer == '1' ? 0 : 1));
            }
        }
    }

    private static void goTogetherWithEach() {
        Script.run("together with what each other transaction holds: the first one is in the way", """
                begin 1 = 0
                begin 1 = 1
                begin 1 = 2
                lock 0 0 2 = 1
                lock 1 0 0 = 1
                lock 2 0 1 = 0
                waitsFor 2 = 1
                """);
        Script.run("together with what each other transaction holds: the last one is in the way", """
                begin 1 = 0
                begin 1 = 1
                begin 1 = 2
                lock 1 0 0 = 1
                lock 2 0 2 = 1
                lock 0 0 1 = 0
                waitsFor 0 = 4
                """);
        Script.run("together with what each other transaction holds: its own is not in the way", """
                begin 1 = 0
                lock 0 0 2 = 1
                lock 0 0 1 = 1
                lock 0 0 4 = 1
                lock 0 0 4 = 1
                mode 0 0 = 4
                """);
    }

    private static void leastAbove() {
        for (int held = 0; held < 5; held++) {
            for (int asked = 0; asked < 5; asked++) {
                Script.run("the least above two modes", "begin 1 = 0\nlock 0 0 " + held + " = 1\nlock 0 0 " + asked
                        + " = 1\nmode 0 0 = " + LEAST_ABOVE[held][asked]);
            }
        }
    }

    private static void oneModeAtMost() {
        for (int held = 0; held < 5; held++) {
            for (int asked = 0; asked < 5; asked++) {
                Script.run("holds an object in one mode at most", "begin 1 = 0\nbegin 1 = 1\nlock 1 0 " + held
                        + " = 1\nlock 1 0 " + asked + " = 1\nmany 0 false = 1\nat 0 0 false = 1"
                        + "\nat 0 1 false = IndexOutOfBounds\ntold 1 2 = 1\nastray = 0\ncommit 1 = 0"
                        + "\nmany 0 false = 0\nlock 0 0 4 = 1");
            }
        }
    }

    private static void heldUntilTheEnd() {
        String held = """
                begin 1 = 0
                begin 2 = 1
                lock 0 0 1 = 1
                lock 0 4 3 = 1
                lock 0 20 2 = 1
                lock 0 84 0 = 1
                lock 1 0 1 = 1
                lock 1 3 4 = 1
                lock 0 1 4 = 1
                %s
                """;
        Script.run("held until it is committed or aborted: kept by one that waits", String.format(held, """
                lock 0 3 0 = 0
                mode 0 0 = 1
                mode 0 4 = 3
                mode 0 20 = 2
                mode 0 84 = 0
                mode 0 1 = 4
                told 0 2 = 5
                """));
        String nothing = """
                mode 0 0 = -1
                mode 0 4 = -1
                mode 0 20 = -1
                mode 0 84 = -1
                mode 0 1 = -1
                told 0 2 = 0
                many 0 false = 1
                many 84 false = 0
                many 1 false = 0
                """;
        Script.run("held until it is committed", String.format(held, "commit 0 = 0\n" + nothing));
        Script.run("held until it is aborted", String.format(held, "abort 0 = 0\n" + nothing));
        Script.run("held until it is aborted while it waits",
                String.format(held, "lock 0 3 0 = 0\nabort 0 = 0\nmany 3 true = 0\n" + nothing));
        Script.run("held until it is aborted in a circle",
                String.format(held, "lock 1 1 0 = 0\nlock 0 3 0 = -1\nmode 1 1 = 0\n" + nothing
                        .replace("many 1 false = 0", "many 1 false = 1")));
    }

    private static void mayAsk() {
        for (int mode = 0; mode < 5; mode++) {
            Script.run("may ask for object 0, with nothing held", "begin 1 = 0\nlock 0 0 " + mode + " = 1\nmode 0 0 = "
                    + mode);
        }
        for (int object : new int[] {1, 4, 5, 8, 20, 21, 24, 84}) {
            for (int above = -1; above < 5; above++) {
                for (int asked = 0; asked < 5; asked++) {
                    mayAsk(object, above, asked);
                }
            }
        }
    }

    private static void mayAsk(int object, int above, int asked) {
        List<String> script = new ArrayList<>(List.of("begin 1 = 0"));
        int upper = (object - 1) / 4;
        for (int o = upper; o > 0; o = (o - 1) / 4) {
            script.add(1, "lock 0 " + (o - 1) / 4 + " 1 = 1");
        }
        if (above >= 0) {
            script.add("lock 0 " + upper + " " + above + " = 1");
        }
        boolean reads = asked == 0 || asked == 2;
        boolean may = reads ? above >= 0 : above == 1 || above == 3 || above == 4;
        script.add("lock 0 " + object + " " + asked + " = " + (may ? "1" : "IllegalState"));
        script.add("mode 0 " + object + " = " + (may ? asked : -1));
        Script.run("may ask: for IS and S in any mode, for the others in IX, SIX or X: " + above, script);
    }

    private static void mayAskOnlyWhile() {
        Script.run("only while it holds the one above it: not after escalate()", """
                begin 1 = 0
                lock 0 0 1 = 1
                lock 0 1 1 = 1
                lock 0 5 4 = 1
                escalate 0 0 = 2
                lock 0 5 0 = IllegalState
                lock 0 1 0 = 1
                lock 0 5 0 = 1
                lock 0 5 4 = IllegalState
                lock 0 1 1 = 1
                lock 0 5 4 = 1
                """);
        Script.run("only while it holds the one above it: another one's does not do", """
                begin 1 = 0
                begin 1 = 1
                lock 0 0 1 = 1
                lock 1 1 0 = IllegalState
                lock 1 0 0 = 1
                lock 1 1 1 = IllegalState
                lock 1 1 2 = 1
                """);
    }

    private static void wants() {
        for (int held = 0; held < 4; held++) {
            for (int asked = 0; asked < 5; asked++) {
                int want = LEAST_ABOVE[held][asked];
                // The other one's IS goes together with all but X.
                String rest = want == 4 ? " = 0\nmode 0 0 = " + held + "\ntold 0 4 = 4"
                        : " = 1\nmode 0 0 = " + want + "\ntold 0 4 = -1";
                Script.run("wants the least above what it holds and the mode that it asks for",
                        "begin 1 = 0\nbegin 1 = 1\nlock 0 0 " + held + " = 1\nlock 1 0 0 = 1\nlock 0 0 " + asked
                                + rest);
            }
        }
        for (int mode = 1; mode <= 2; mode++) {
            Script.run("wants the least above: IX and S, SIX", "begin 1 = 0\nbegin 1 = 1\nlock 0 0 " + mode
                    + " = 1\nlock 1 0 " + mode + " = 1\nlock 0 0 " + (3 - mode) + " = 0\ntold 0 4 = 3\nmode 0 0 = "
                    + mode);
        }
        for (int mode = 0; mode < 5; mode++) {
            Script.run("wants what it asks for, with nothing held", "begin 1 = 0\nbegin 1 = 1\nlock 0 0 4 = 1\nlock 1 0 "
                    + mode + " = 0\ntold 1 4 = " + mode + "\ntold 1 3 = 0\ncommit 0 = 1\nmode 1 0 = " + mode);
        }
    }

    private static void queueOfBothKinds() {
        Script.run("the queue: behind all others of that kind, before all that hold nothing; other ones at the end", """
                begin 1 = 0
                begin 1 = 1
                begin 1 = 2
                begin 1 = 3
                begin 1 = 4
                begin 1 = 5
                begin 1 = 6
                lock 3 0 2 = 1
                lock 4 0 0 = 1
                lock 1 0 0 = 1
                lock 6 0 0 = 1
                lock 5 0 4 = 0
                lock 4 0 1 = 0
                at 0 0 true = 4
                at 0 1 true = 5
                lock 0 0 4 = 0
                lock 1 0 1 = 0
                lock 2 0 0 = 0
                lock 6 0 1 = 0
                many 0 true = 6
                at 0 0 true = 4
                at 0 1 true = 1
                at 0 2 true = 6
                at 0 3 true = 5
                at 0 4 true = 0
                at 0 5 true = 2
                at 0 6 true = IndexOutOfBounds
                waitsFor 4 = 8
                waitsFor 1 = 24
                waitsFor 6 = 26
                waitsFor 5 = 90
                waitsFor 0 = 122
                waitsFor 2 = 115
                commit 3 = 3
                at 0 0 true = 5
                """);
    }

    private static void queuesOfTwoObjects() {
        Script.run("an object's queue: requests for others are not in it", """
                begin 1 = 0
                begin 1 = 1
                begin 1 = 2
                begin 1 = 3
                begin 1 = 4
                begin 1 = 5
                lock 0 0 1 = 1
                lock 1 0 1 = 1
                lock 2 0 1 = 1
                lock 3 0 1 = 1
                lock 4 0 1 = 1
                lock 5 0 1 = 1
                lock 0 1 2 = 1
                lock 0 2 2 = 1
                lock 4 1 0 = 1
                lock 5 2 0 = 1
                lock 1 1 4 = 0
                lock 2 2 4 = 0
                lock 3 1 4 = 0
                lock 5 2 1 = 0
                lock 4 1 1 = 0
                many 0 true = 0
                many 1 true = 3
                many 2 true = 2
                at 1 0 true = 4
                at 1 1 true = 1
                at 1 2 true = 3
                at 2 0 true = 5
                at 2 1 true = 2
                waitsFor 5 = 1
                waitsFor 4 = 1
                waitsFor 3 = 19
                abort 5 = 0
                at 1 0 true = 4
                at 2 0 true = 2
                """);
    }

    private static void served() {
        Script.run("served: as long as the first request goes together", """
                begin 1 = 0
                begin 1 = 1
                begin 1 = 2
                begin 1 = 3
                begin 1 = 4
                begin 1 = 5
                lock 0 0 4 = 1
                lock 1 0 0 = 0
                lock 2 0 1 = 0
                lock 3 0 1 = 0
                lock 4 0 2 = 0
                lock 5 0 0 = 0
                commit 0 = 3
                mode 1 0 = 0
                mode 2 0 = 1
                mode 3 0 = 1
                mode 4 0 = -1
                mode 5 0 = -1
                many 0 true = 2
                at 0 0 true = 4
                told 3 0 = 0
                told 3 3 = -1
                told 3 4 = -1
                told 4 0 = 1
                lock 3 1 4 = 1
                commit 2 = 0
                commit 3 = 2
                """);
        Script.run("served: what was just granted is held, too", """
                begin 1 = 0
                begin 1 = 1
                begin 1 = 2
                lock 0 0 2 = 1
                lock 1 0 4 = 0
                lock 2 0 4 = 0
                commit 0 = 1
                waitsFor 2 = 2
                commit 1 = 1
                """);
        Script.run("served: sixty less one are granted", sixtyServed());
    }

    private static List<String> sixtyServed() {
        List<String> script = begins(60);
        for (int t = 0; t < 60; t++) {
            script.add("lock " + t + " 0 " + (t == 0 ? "4 = 1" : "2 = 0"));
        }
        script.addAll(List.of("many 0 true = 59", "commit 0 = 59", "many 0 false = 59", "many 0 true = 0",
                "at 0 58 false = 59", "count 7 = 59"));
        return script;
    }

    private static void waitsFor() {
        Script.run("waits for: not one that goes together, nor one behind, nor itself", """
                begin 1 = 0
                begin 1 = 1
                begin 1 = 2
                begin 1 = 3
                begin 1 = 4
                lock 0 0 0 = 1
                lock 1 0 2 = 1
                lock 2 0 0 = 1
                lock 3 0 1 = 0
                lock 4 0 4 = 0
                lock 2 0 1 = 0
                waitsFor 0 = 0
                waitsFor 1 = 0
                waitsFor 2 = 2
                waitsFor 3 = 6
                waitsFor 4 = 15
                """);
        Script.run("waits for: one that stands before, though both go together", """
                begin 1 = 0
                begin 1 = 1
                begin 1 = 2
                lock 0 0 4 = 1
                lock 1 0 0 = 0
                lock 2 0 0 = 0
                waitsFor 1 = 1
                waitsFor 2 = 3
                commit 0 = 2
                waitsFor 1 = 0
                waitsFor 2 = 0
                """);
        Script.run("waits for: one that holds the object and stands before is one", """
                begin 1 = 0
                begin 1 = 1
                begin 1 = 2
                lock 0 0 2 = 1
                lock 1 0 0 = 1
                lock 1 0 1 = 0
                lock 2 0 4 = 0
                waitsFor 2 = 3
                """);
    }

    private static void circles() {
        Script.run("in a circle: one that waits for one that does not wait is in none", """
                begin 0 = 0
                begin 0 = 1
                begin 0 = 2
                lock 0 0 4 = 1
                lock 1 0 4 = 0
                lock 2 0 4 = 0
                count 5 = 0
                count 2 = 2
                """);
        Script.run("in a circle: two of the same object", """
                begin 3 = 0
                begin 3 = 1
                lock 0 0 1 = 1
                lock 1 0 1 = 1
                lock 0 0 2 = 0
                lock 1 0 2 = -1
                mode 0 0 = 3
                """);
        Script.run("in a circle: a holder's request comes before one that waits for it, and is in none", """
                begin 3 = 0
                begin 3 = 1
                begin 3 = 2
                lock 0 0 0 = 1
                lock 1 0 2 = 1
                lock 2 0 4 = 0
                lock 0 0 1 = 0
                count 5 = 0
                waitsFor 2 = 3
                waitsFor 0 = 2
                """);
        Script.run("in a circle: one waits for a holder only because that one's request comes before its own", """
                begin 9 = 0
                begin 1 = 1
                begin 7 = 2
                begin 5 = 3
                lock 0 0 1 = 1
                lock 1 0 1 = 1
                lock 2 0 1 = 1
                lock 3 0 1 = 1
                lock 0 1 0 = 1
                lock 1 1 2 = 1
                lock 2 1 0 = 1
                lock 3 2 4 = 1
                lock 3 1 1 = 0
                waitsFor 3 = 2
                lock 2 2 0 = 0
                lock 0 1 4 = 0
                told 3 0 = 3
                told 2 0 = 0
                told 1 0 = 0
                waitsFor 0 = 6
                count 5 = 1
                """);
    }

    private static void theCircleIsAll() {
        // 3 waits for 1 and 2, which both wait for 3; and for 0, which waits for nobody; 4 waits for 3.
        String eight = """
                begin %d = 0
                begin %d = 1
                begin %d = 2
                begin %d = 3
                begin %d = 4
                lock 0 0 1 = 1
                lock 1 0 1 = 1
                lock 2 0 1 = 1
                lock 3 0 1 = 1
                lock 4 0 1 = 1
                lock 3 1 4 = 1
                lock 3 2 4 = 1
                lock 3 3 4 = 1
                lock 0 4 2 = 1
                lock 1 4 2 = 1
                lock 2 4 2 = 1
                lock 1 1 2 = 0
                lock 2 2 2 = 0
                lock 4 3 2 = 0
                """;
        Script.run("the circle is all that it comes to, and that come to it: none other, be it less",
                String.format(eight, 0, 6, 7, 9, 0) + """
                lock 3 4 4 = 0
                told 0 0 = 0
                told 1 0 = 3
                told 2 0 = 3
                told 3 0 = 1
                told 4 0 = 1
                waitsFor 3 = 1
                waitsFor 4 = 8
                count 5 = 2
                """);
        Script.run("the circle is all that it comes to, and that come to it: itself, too",
                String.format(eight, 0, 6, 7, 5, 0) + """
                lock 3 4 4 = -1
                told 0 0 = 0
                told 1 0 = 0
                told 2 0 = 0
                told 4 0 = 0
                count 5 = 1
                count 7 = 3
                """);
        Script.run("the circle is all that it comes to, and that come to it: as long as it is in one",
                String.format(eight, 0, 7, 5, 6, 0) + """
                lock 3 4 4 = -1
                told 1 0 = 0
                told 2 0 = 3
                told 3 0 = 3
                told 4 0 = 0
                count 5 = 2
                """);
    }

    /** Each of sixty holds one of the lowest objects, and asks for the next one's: up or down the numbers. */
    private static void circleOfSixty() {
        for (int step : new int[] {1, 59}) {
            for (int victim : new int[] {0, 1, 30, 58, 59}) {
                Script.run("a circle of sixty", circleOfSixty(step, victim, 3));
            }
            Script.run("a circle of sixty, all with the same priority", circleOfSixty(step, 59, 7));
        }
    }

    private static List<String> circleOfSixty(int step, int victim, int least) {
        List<String> script = new ArrayList<>();
        for (int t = 0; t < 60; t++) {
            script.add("begin " + (t == victim ? least : 7) + " = " + t);
            script.add("lock " + t + " 0 1 = 1");
            addBranch(script, t, 21 + t, -1);
            script.add("lock " + t + " " + (21 + t) + " 4 = 1");
        }
        for (int t = 0; t < 60; t++) {
            int next = (t + step) % 60;
            addBranch(script, t, 21 + next, 21 + t);
            String answer = t < 59 ? "0" : victim == 59 ? "-1" : victim == (59 + step) % 60 ? "1" : "0";
            script.add("lock " + t + " " + (21 + next) + " 4 = " + answer);
        }
        int before = (victim - step + 60) % 60;
        script.addAll(List.of("told " + victim + " 0 = 3", "told " + before + " 0 = 0", "count 1 = 1", "count 2 = 58",
                "count 4 = 1", "count 5 = 1", "count 7 = 1", "mode " + before + " " + (21 + victim) + " = 4",
                "astray = 0"));
        return script;
    }

    /** Locks what stands between object 0 and the leaf, but for what stands above another leaf, too. */
    private static void addBranch(List<String> script, int t, int leaf, int other) {
        int lower = (leaf - 1) / 4;
        int upper = (lower - 1) / 4;
        int otherLower = (other - 1) / 4;
        if (other < 0 || upper != (otherLower - 1) / 4) {
            script.add("lock " + t + " " + upper + " 1 = 1");
        }
        if (other < 0 || lower != otherLower) {
            script.add("lock " + t + " " + lower + " 1 = 1");
        }
    }

    private static void ends() {
        Script.run("one ends: each of the objects that it held is served", """
                begin 1 = 0
                begin 1 = 1
                begin 1 = 2
                begin 1 = 3
                lock 0 0 1 = 1
                lock 1 0 1 = 1
                lock 2 0 1 = 1
                lock 0 4 1 = 1
                lock 1 4 1 = 1
                lock 0 20 4 = 1
                lock 0 1 2 = 1
                lock 1 20 2 = 0
                lock 2 1 1 = 0
                lock 3 0 2 = 0
                commit 0 = 2
                mode 1 20 = 2
                mode 2 1 = 1
                told 3 0 = 1
                """);
        Script.run("one ends: the object that it waited for, and did not hold, is served", """
                begin 1 = 0
                begin 1 = 1
                begin 1 = 2
                begin 1 = 3
                lock 0 0 2 = 1
                lock 1 0 1 = 0
                lock 2 0 2 = 0
                lock 3 0 4 = 0
                abort 1 = 1
                mode 2 0 = 2
                at 0 0 true = 3
                at 0 1 true = IndexOutOfBounds
                told 1 3 = -1
                told 1 4 = -1
                waitsFor 1 = 0
                """);
        Script.run("one ends: the object that it held, and waited for more of, is served", """
                begin 1 = 0
                begin 1 = 1
                begin 1 = 2
                begin 1 = 3
                lock 0 0 2 = 1
                lock 1 0 2 = 1
                lock 1 0 4 = 0
                lock 2 0 2 = 0
                lock 3 0 4 = 0
                abort 1 = 1
                mode 1 0 = -1
                mode 2 0 = 2
                many 0 false = 2
                """);
        Script.run("one ends: a request in the midst of the queue or at its end, and nobody is granted", """
                begin 1 = 0
                begin 1 = 1
                begin 1 = 2
                begin 1 = 3
                lock 0 0 4 = 1
                lock 1 0 4 = 0
                lock 2 0 4 = 0
                lock 3 0 4 = 0
                abort 2 = 0
                at 0 0 true = 1
                at 0 1 true = 3
                abort 3 = 0
                many 0 true = 1
                waitsFor 1 = 1
                """);
        Script.run("one ends that holds nothing", """
                begin 1 = 0
                begin 1 = 1
                commit 0 = 0
                abort 1 = 0
                """);
    }

    private static void theFirstException() {
        Script.run("of several that a call names, the first one", """
                begin 1 = 0
                commit 0 = 0
                lock 1 85 5 = IndexOutOfBounds
                lock 0 85 5 = IndexOutOfBounds
                lock 0 85 0 = IndexOutOfBounds
                lock 0 84 5 = IllegalArgument
                lock 0 0 5 = IllegalArgument
                lock 0 0 0 = IllegalState
                escalate 0 85 = IndexOutOfBounds
                escalate 1 0 = IndexOutOfBounds
                escalate 0 0 = IllegalState
                told 1 5 = IndexOutOfBounds
                told 0 5 = IllegalArgument
                """);
        List<String> script = begins(60);
        script.addAll(List.of("begin -1 = IllegalArgument", "begin 100 = IllegalArgument", "begin 99 = IllegalState"));
        Script.run("of several that a call names, the first one", script);
    }
}
