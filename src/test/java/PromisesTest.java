import java.util.Map;

/** Runs of calls by hand, promise by promise. A row of a run is: a call, "=", and its answer or exception. */
public final class PromisesTest {
    private static final Map<String, Class<?>> EXCEPTIONS = Map.of(
            "IndexOutOfBounds", IndexOutOfBoundsException.class,
            "IllegalArgument", IllegalArgumentException.class,
            "IllegalState", IllegalStateException.class);

    private static int rows = 0;
    private static int wrong = 0;

    public static void main(String[] args) {
        newObject();
        begin();
        lockExceptions();
        lockOfOneTransaction();
        lockBelow();
        lockAndQueue();
        lockAndCircles();
        commit();
        abort();
        escalate();
        mode();
        told();
        many();
        at();
        waitsFor();
        count();
        astray();
        System.out.println(rows + " rows, " + wrong + " wrong");
        if (wrong != 0 || rows == 0) {
            System.exit(1);
        }
    }

    private static void newObject() {
        run("1: no transactions", """
                count 0 = 0
                count 1 = 0
                count 2 = 0
                count 3 = 0
                count 4 = 0
                count 5 = 0
                count 6 = 0
                count 7 = 0
                astray = 0
                many 0 false = 0
                many 84 true = 0
                at 0 0 false = IndexOutOfBounds
                at 0 0 true = IndexOutOfBounds
                told 0 0 = IndexOutOfBounds
                mode 0 0 = IndexOutOfBounds
                waitsFor 0 = IndexOutOfBounds
                commit 0 = IndexOutOfBounds
                abort 0 = IndexOutOfBounds
                escalate 0 0 = IndexOutOfBounds
                lock 0 0 0 = IndexOutOfBounds
                """);
        LockDesk one = new LockDesk();
        one.begin(1);
        due("1: objects share nothing", new LockDesk().count(0), 0);
    }

    private static void begin() {
        run("2: numbers and priorities", """
                begin 0 = 0
                begin 99 = 1
                begin 50 = 2
                told 0 0 = 0
                told 0 1 = 0
                told 1 1 = 99
                told 2 1 = 50
                told 0 2 = 0
                told 0 3 = -1
                told 0 4 = -1
                count 0 = 3
                count 1 = 3
                """);
        run("2: wrong priorities change nothing", """
                begin -1 = IllegalArgument
                begin 100 = IllegalArgument
                begin 2147483647 = IllegalArgument
                begin -2147483648 = IllegalArgument
                count 0 = 0
                begin 7 = 0
                """);
        LockDesk desk = new LockDesk();
        for (int i = 0; i < 60; i++) {
            row(desk, "2: sixty", "begin 3 = " + i);
        }
        row(desk, "2: no more than sixty", "begin 3 = IllegalState");
        row(desk, "2: the first of two exceptions", "begin 100 = IllegalArgument");
        row(desk, "2: nor when one has ended", "commit 5 = 0");
        row(desk, "2: nor when one has ended", "begin 3 = IllegalState");
        row(desk, "2: the last one is there", "lock 59 0 4 = 1");
        row(desk, "2: the last one is there", "told 60 0 = IndexOutOfBounds");
        row(desk, "2: nothing changed", "count 0 = 60");
    }

    private static void lockExceptions() {
        run("3: exceptions, the first of several, and nothing changes", """
                begin 1 = 0
                lock -1 0 0 = IndexOutOfBounds
                lock 1 0 0 = IndexOutOfBounds
                lock 0 -1 0 = IndexOutOfBounds
                lock 0 85 0 = IndexOutOfBounds
                lock 0 85 9 = IndexOutOfBounds
                lock 2147483647 0 9 = IndexOutOfBounds
                lock 0 -2147483648 0 = IndexOutOfBounds
                lock 0 0 -1 = IllegalArgument
                lock 0 0 5 = IllegalArgument
                lock 0 84 5 = IllegalArgument
                lock 0 84 0 = IllegalState
                told 0 0 = 0
                told 0 2 = 0
                count 6 = 0
                commit 0 = 0
                lock 0 0 5 = IllegalArgument
                lock 0 0 0 = IllegalState
                begin 1 = 1
                abort 1 = 0
                lock 1 0 0 = IllegalState
                begin 1 = 2
                lock 2 0 4 = 1
                begin 1 = 3
                lock 3 0 0 = 0
                lock 3 0 0 = IllegalState
                lock 3 1 0 = IllegalState
                many 0 true = 1
                """);
    }

    private static void lockOfOneTransaction() {
        int[][] leastAbove = {
            {0, 1, 2, 3, 4}, {1, 1, 3, 3, 4}, {2, 3, 2, 3, 4}, {3, 3, 3, 3, 4}, {4, 4, 4, 4, 4}};
        for (int held = 0; held < 5; held++) {
            for (int asked = 0; asked < 5; asked++) {
                run("3: the least above", "begin 1 = 0\nlock 0 0 " + held + " = 1\nlock 0 0 " + asked
                        + " = 1\nmode 0 0 = " + leastAbove[held][asked] + "\ntold 0 0 = 0\ntold 0 2 = 1");
            }
        }
        run("3: what is held already is no request", """
                begin 1 = 0
                begin 1 = 1
                lock 0 0 2 = 1
                lock 1 0 2 = 1
                lock 0 0 0 = 1
                lock 0 0 2 = 1
                count 6 = 2
                count 7 = 0
                lock 1 0 4 = 0
                lock 0 0 2 = 1
                lock 0 0 0 = 1
                many 0 true = 1
                """);
    }

    private static void lockBelow() {
        int[] places = {1, 4, 5, 8, 20, 21, 24, 84};
        for (int object : places) {
            for (int above = -1; above < 5; above++) {
                for (int asked = 0; asked < 5; asked++) {
                    lockBelow(object, above, asked);
                }
            }
        }
        run("3: only the one above counts", """
                begin 1 = 0
                lock 0 0 4 = 1
                lock 0 5 0 = IllegalState
                lock 0 4 1 = 1
                lock 0 5 0 = IllegalState
                lock 0 20 1 = 1
                lock 0 84 4 = 1
                lock 0 81 4 = 1
                lock 0 80 2 = IllegalState
                """);
    }

    private static void lockBelow(int object, int above, int asked) {
        LockDesk desk = new LockDesk();
        String title = "3: below one held in " + above;
        row(desk, title, "begin 1 = 0");
        int upper = (object - 1) / 4;
        if (upper > 0 && (upper - 1) / 4 > 0) {
            row(desk, title, "lock 0 0 1 = 1");
        }
        if (upper > 0) {
            row(desk, title, "lock 0 " + (upper - 1) / 4 + " 1 = 1");
        }
        if (above >= 0) {
            row(desk, title, "lock 0 " + upper + " " + above + " = 1");
        }
        boolean reads = asked == 0 || asked == 2;
        boolean may = reads ? above >= 0 : above == 1 || above == 3 || above == 4;
        row(desk, title, "lock 0 " + object + " " + asked + " = " + (may ? "1" : "IllegalState"));
        row(desk, title, "mode 0 " + object + " = " + (may ? asked : -1));
    }

    private static void lockAndQueue() {
        String[] together = {"11110", "11000", "10100", "10000", "00000"};
        for (int held = 0; held < 5; held++) {
            for (int asked = 0; asked < 5; asked++) {
                char answer = together[held].charAt(asked);
                run("3: what goes together", "begin 1 = 0\nbegin 1 = 1\nlock 0 0 " + held + " = 1\nlock 1 0 "
                        + asked + " = " + answer + "\nmode 1 0 = " + (answer == '1' ? asked : -1)
                        + "\ncount 6 = " + (answer == '1' ? 2 : 1));
            }
        }
        run("3: nobody overtakes", """
                begin 1 = 0
                begin 1 = 1
                begin 1 = 2
                lock 0 0 0 = 1
                lock 1 0 4 = 0
                lock 2 0 0 = 0
                at 0 0 true = 1
                at 0 1 true = 2
                """);
        run("3: those that hold the object go before others, behind their own kind", """
                begin 1 = 0
                begin 2 = 1
                begin 3 = 2
                begin 4 = 3
                begin 5 = 4
                lock 0 0 0 = 1
                lock 1 0 0 = 1
                lock 2 0 2 = 1
                lock 3 0 4 = 0
                lock 4 0 4 = 0
                lock 1 0 1 = 0
                lock 0 0 1 = 0
                many 0 true = 4
                at 0 0 true = 1
                at 0 1 true = 0
                at 0 2 true = 3
                at 0 3 true = 4
                mode 0 0 = 0
                told 0 4 = 1
                commit 2 = 2
                mode 0 0 = 1
                mode 1 0 = 1
                """);
        run("3: one that wants more is granted before those that wait", """
                begin 1 = 0
                begin 1 = 1
                lock 0 0 0 = 1
                lock 1 0 4 = 0
                lock 0 0 3 = 1
                mode 0 0 = 3
                count 6 = 2
                at 0 0 true = 1
                """);
    }

    private static void lockAndCircles() {
        run("3: two in a circle, the asking one is given up", """
                begin 5 = 0
                begin 5 = 1
                lock 0 0 2 = 1
                lock 1 0 2 = 1
                lock 0 0 4 = 0
                lock 1 0 4 = -1
                told 1 0 = 3
                told 1 2 = 0
                told 0 0 = 0
                mode 0 0 = 4
                count 4 = 1
                count 5 = 1
                count 6 = 2
                count 7 = 1
                """);
        run("3: two in a circle, the other one is given up", """
                begin 4 = 0
                begin 5 = 1
                lock 0 0 2 = 1
                lock 1 0 2 = 1
                lock 0 0 4 = 0
                lock 1 0 4 = 1
                told 0 0 = 3
                told 0 3 = -1
                mode 1 0 = 4
                many 0 true = 0
                count 5 = 1
                count 6 = 2
                count 7 = 1
                """);
        run("3: of several with the least priority, the greatest number", """
                begin 5 = 0
                begin 4 = 1
                begin 4 = 2
                begin 6 = 3
                lock 0 0 1 = 1
                lock 1 0 1 = 1
                lock 2 0 1 = 1
                lock 3 0 1 = 1
                lock 0 1 4 = 1
                lock 1 2 4 = 1
                lock 2 3 4 = 1
                lock 3 4 4 = 1
                lock 0 2 4 = 0
                lock 1 3 4 = 0
                lock 2 4 4 = 0
                lock 3 1 4 = 0
                told 2 0 = 3
                told 1 0 = 0
                told 0 0 = 1
                told 3 0 = 1
                """);
        run("3: as many are given up as it takes", """
                begin 9 = 0
                begin 3 = 1
                begin 4 = 2
                lock 0 0 1 = 1
                lock 1 0 1 = 1
                lock 2 0 1 = 1
                lock 0 1 4 = 1
                lock 1 2 2 = 1
                lock 2 2 2 = 1
                lock 1 1 2 = 0
                lock 2 1 2 = 0
                lock 0 2 4 = 1
                told 1 0 = 3
                told 2 0 = 3
                count 5 = 2
                count 7 = 1
                many 0 false = 1
                """);
        run("3: no circle left, but it waits", """
                begin 9 = 0
                begin 3 = 1
                begin 1 = 2
                lock 0 0 1 = 1
                lock 1 0 1 = 1
                lock 2 0 1 = 1
                lock 0 1 4 = 1
                lock 1 2 2 = 1
                lock 2 2 2 = 1
                lock 1 1 2 = 0
                lock 0 2 4 = 0
                told 1 0 = 3
                told 2 0 = 0
                waitsFor 0 = 4
                count 5 = 1
                """);
        run("3: who waits for a circle, or is waited for, is not of it", """
                begin 0 = 0
                begin 0 = 1
                begin 8 = 2
                begin 9 = 3
                lock 0 0 1 = 1
                lock 1 0 1 = 1
                lock 2 0 1 = 1
                lock 3 0 1 = 1
                lock 1 1 2 = 1
                lock 2 1 2 = 1
                lock 2 3 4 = 1
                lock 3 2 4 = 1
                lock 0 3 2 = 0
                lock 2 2 4 = 0
                lock 3 1 4 = 0
                told 0 0 = 0
                told 1 0 = 0
                told 2 0 = 3
                told 3 0 = 1
                waitsFor 3 = 2
                count 5 = 1
                """);
        run("3: a circle by the queue alone", """
                begin 5 = 0
                begin 6 = 1
                begin 7 = 2
                lock 0 0 1 = 1
                lock 1 0 1 = 1
                lock 2 0 1 = 1
                lock 0 1 2 = 1
                lock 1 2 4 = 1
                lock 2 1 4 = 0
                lock 1 1 2 = 0
                waitsFor 1 = 4
                lock 0 2 2 = -1
                told 2 0 = 0
                told 1 0 = 1
                count 5 = 1
                """);
    }

    private static void commit() {
        run("4: what was held is served, and counted", """
                begin 1 = 0
                begin 1 = 1
                begin 1 = 2
                begin 1 = 3
                lock 0 0 1 = 1
                lock 1 0 1 = 1
                lock 2 0 1 = 1
                lock 3 0 1 = 1
                lock 0 1 4 = 1
                lock 0 84 0 = IllegalState
                lock 0 4 4 = 1
                lock 1 1 0 = 0
                lock 2 1 2 = 0
                lock 3 4 4 = 0
                commit 0 = 3
                told 0 0 = 2
                told 0 2 = 0
                mode 0 0 = -1
                mode 1 1 = 0
                mode 2 1 = 2
                mode 3 4 = 4
                count 7 = 3
                many 0 false = 3
                """);
        run("4: served only as far as it goes", """
                begin 1 = 0
                begin 1 = 1
                begin 1 = 2
                begin 1 = 3
                lock 0 0 4 = 1
                lock 1 0 2 = 0
                lock 2 0 1 = 0
                lock 3 0 2 = 0
                commit 0 = 1
                told 1 0 = 0
                told 2 0 = 1
                told 3 0 = 1
                commit 1 = 1
                commit 2 = 1
                commit 3 = 0
                """);
        run("4: exceptions change nothing", """
                begin 1 = 0
                begin 1 = 1
                lock 0 0 4 = 1
                lock 1 0 4 = 0
                commit -1 = IndexOutOfBounds
                commit 2 = IndexOutOfBounds
                commit 1 = IllegalState
                told 1 3 = 0
                commit 0 = 1
                commit 0 = IllegalState
                abort 1 = 0
                commit 1 = IllegalState
                count 3 = 1
                count 4 = 1
                """);
    }

    private static void abort() {
        run("5: one that waits is out of the queue, and those behind it are served", """
                begin 1 = 0
                begin 1 = 1
                begin 1 = 2
                begin 1 = 3
                lock 0 0 2 = 1
                lock 1 0 4 = 0
                lock 2 0 2 = 0
                lock 3 0 0 = 0
                abort 1 = 2
                told 1 0 = 3
                told 1 3 = -1
                told 1 4 = -1
                many 0 true = 0
                many 0 false = 3
                count 4 = 1
                count 5 = 0
                count 7 = 2
                """);
        run("5: what it held, and what it waited for", """
                begin 1 = 0
                begin 1 = 1
                begin 1 = 2
                begin 1 = 3
                lock 0 0 1 = 1
                lock 1 0 1 = 1
                lock 2 0 1 = 1
                lock 3 0 1 = 1
                lock 0 3 0 = 1
                lock 1 2 4 = 1
                lock 1 3 4 = 0
                lock 2 3 0 = 0
                lock 3 2 4 = 0
                abort 1 = 2
                mode 2 3 = 0
                mode 3 2 = 4
                mode 1 2 = -1
                """);
        run("5: exceptions change nothing", """
                abort 0 = IndexOutOfBounds
                begin 1 = 0
                abort -1 = IndexOutOfBounds
                abort 1 = IndexOutOfBounds
                abort 0 = 0
                abort 0 = IllegalState
                begin 1 = 1
                commit 1 = 0
                abort 1 = IllegalState
                told 1 0 = 2
                count 4 = 1
                """);
    }

    private static void escalate() {
        run("6: those below, and below those, in S", """
                begin 1 = 0
                lock 0 0 0 = 1
                lock 0 1 0 = 1
                lock 0 2 2 = 1
                lock 0 5 2 = 1
                lock 0 21 2 = 1
                escalate 0 1 = 2
                mode 0 0 = 0
                mode 0 1 = 2
                mode 0 2 = 2
                mode 0 5 = -1
                mode 0 21 = -1
                told 0 2 = 3
                escalate 0 0 = 2
                mode 0 0 = 2
                told 0 2 = 1
                """);
        for (int mode = 0; mode < 5; mode++) {
            boolean writes = mode == 1 || mode == 3 || mode == 4;
            run("6: S or X", "begin 1 = 0\nlock 0 0 1 = 1\nlock 0 1 1 = 1\nlock 0 8 " + mode
                    + " = 1\nescalate 0 1 = 1\nmode 0 1 = " + (writes ? 4 : 3) + "\nmode 0 0 = 1");
        }
        run("6: a write far below", """
                begin 1 = 0
                lock 0 0 1 = 1
                lock 0 4 1 = 1
                lock 0 20 1 = 1
                lock 0 84 4 = 1
                lock 0 3 2 = 1
                escalate 0 3 = 0
                escalate 0 20 = 1
                mode 0 20 = 4
                escalate 0 0 = 3
                mode 0 0 = 4
                """);
        run("6: from the top to the lowest level", """
                begin 1 = 0
                lock 0 0 1 = 1
                lock 0 1 0 = 1
                lock 0 4 1 = 1
                lock 0 20 1 = 1
                lock 0 81 0 = 1
                lock 0 84 4 = 1
                escalate 0 0 = 5
                mode 0 0 = 4
                mode 0 81 = -1
                mode 0 84 = -1
                told 0 2 = 1
                """);
        run("6: nothing below", """
                begin 1 = 0
                lock 0 0 0 = 1
                escalate 0 0 = 0
                mode 0 0 = 2
                lock 0 0 4 = 1
                escalate 0 0 = 0
                mode 0 0 = 4
                """);
        run("6: it does not go", """
                begin 1 = 0
                begin 1 = 1
                lock 0 0 1 = 1
                lock 0 1 2 = 1
                lock 1 0 1 = 1
                escalate 0 0 = -1
                mode 0 0 = 1
                mode 0 1 = 2
                told 0 2 = 2
                commit 1 = 0
                begin 1 = 2
                lock 2 0 0 = 1
                escalate 0 0 = 1
                mode 0 0 = 3
                """);
        run("6: the queue is not asked", """
                begin 1 = 0
                begin 1 = 1
                begin 1 = 2
                lock 0 0 0 = 1
                lock 0 1 0 = 1
                lock 0 5 2 = 1
                lock 0 6 0 = 1
                lock 1 0 0 = 1
                lock 1 1 0 = 1
                lock 1 5 0 = 1
                lock 2 0 1 = 1
                lock 2 1 4 = 0
                escalate 0 1 = 2
                mode 0 1 = 2
                mode 0 5 = -1
                mode 1 5 = 0
                waitsFor 2 = 3
                many 1 true = 1
                astray = 0
                """);
        run("6: only what stands below the object", """
                begin 1 = 0
                lock 0 0 1 = 1
                lock 0 1 1 = 1
                lock 0 2 1 = 1
                lock 0 4 1 = 1
                lock 0 5 1 = 1
                lock 0 9 4 = 1
                lock 0 12 2 = 1
                lock 0 17 4 = 1
                lock 0 21 2 = 1
                lock 0 24 2 = 1
                escalate 0 5 = 2
                mode 0 5 = 3
                escalate 0 2 = 2
                mode 0 2 = 4
                told 0 2 = 6
                mode 0 17 = 4
                mode 0 1 = 1
                """);
        run("6: exceptions change nothing", """
                begin 1 = 0
                lock 0 0 0 = 1
                escalate -1 0 = IndexOutOfBounds
                escalate 1 0 = IndexOutOfBounds
                escalate 0 -1 = IndexOutOfBounds
                escalate 0 85 = IndexOutOfBounds
                escalate 0 1 = IllegalState
                mode 0 0 = 0
                begin 1 = 1
                lock 1 0 2 = 1
                lock 0 0 1 = 0
                escalate 0 0 = IllegalState
                mode 0 0 = 0
                commit 1 = 1
                commit 0 = 0
                escalate 0 0 = IllegalState
                begin 1 = 2
                lock 2 0 0 = 1
                abort 2 = 0
                escalate 2 0 = IllegalState
                """);
    }

    private static void mode() {
        run("7: what is held, not what is wanted", """
                begin 1 = 0
                begin 1 = 1
                mode 0 0 = -1
                lock 0 0 0 = 1
                lock 1 0 2 = 1
                lock 0 0 1 = 0
                mode 0 0 = 0
                mode 0 84 = -1
                mode -1 0 = IndexOutOfBounds
                mode 2 0 = IndexOutOfBounds
                mode 0 -1 = IndexOutOfBounds
                mode 0 85 = IndexOutOfBounds
                commit 1 = 1
                mode 0 0 = 1
                mode 1 0 = -1
                """);
    }

    private static void told() {
        run("8: told", """
                begin 7 = 0
                begin 8 = 1
                lock 0 0 1 = 1
                lock 1 0 1 = 1
                lock 0 2 2 = 1
                lock 1 2 0 = 1
                lock 1 2 1 = 0
                told 1 0 = 1
                told 1 1 = 8
                told 1 2 = 2
                told 1 3 = 2
                told 1 4 = 1
                told 0 3 = -1
                told 0 4 = -1
                told 0 5 = IllegalArgument
                told 0 -1 = IllegalArgument
                told 2 5 = IndexOutOfBounds
                told -1 0 = IndexOutOfBounds
                told 60 0 = IndexOutOfBounds
                commit 0 = 1
                told 0 0 = 2
                told 0 1 = 7
                told 1 3 = -1
                told 1 4 = -1
                abort 1 = 0
                told 1 0 = 3
                told 1 1 = 8
                told 1 2 = 0
                """);
        run("8: what is wanted is the least above", """
                begin 7 = 0
                begin 8 = 1
                lock 0 0 1 = 1
                lock 1 0 1 = 1
                lock 0 0 2 = 0
                told 0 4 = 3
                told 0 3 = 0
                """);
    }

    private static void many() {
        run("9: many", """
                many -1 false = IndexOutOfBounds
                many 85 false = IndexOutOfBounds
                many -1 true = IndexOutOfBounds
                many 85 true = IndexOutOfBounds
                begin 1 = 0
                begin 1 = 1
                begin 1 = 2
                lock 0 0 2 = 1
                lock 1 0 0 = 1
                lock 2 0 1 = 0
                many 0 false = 2
                many 0 true = 1
                lock 1 0 1 = 0
                many 0 false = 2
                many 0 true = 2
                many 84 false = 0
                many 84 true = 0
                """);
    }

    private static void at() {
        run("10: holders by numbers, a queue in its order", """
                begin 1 = 0
                begin 1 = 1
                begin 1 = 2
                begin 1 = 3
                begin 1 = 4
                lock 2 0 2 = 1
                lock 0 0 0 = 1
                lock 1 0 2 = 1
                lock 4 0 1 = 0
                lock 3 0 1 = 0
                at 0 0 false = 0
                at 0 1 false = 1
                at 0 2 false = 2
                at 0 3 false = IndexOutOfBounds
                at 0 -1 false = IndexOutOfBounds
                at 0 0 true = 4
                at 0 1 true = 3
                at 0 2 true = IndexOutOfBounds
                at 0 -1 true = IndexOutOfBounds
                at 0 2147483647 true = IndexOutOfBounds
                at -1 0 true = IndexOutOfBounds
                at 85 0 true = IndexOutOfBounds
                at 85 0 false = IndexOutOfBounds
                at 1 0 false = IndexOutOfBounds
                """);
    }

    private static void waitsFor() {
        run("11: holders in the way, and all that stand before", """
                waitsFor -1 = IndexOutOfBounds
                begin 1 = 0
                begin 1 = 1
                begin 1 = 2
                begin 1 = 3
                lock 0 0 2 = 1
                lock 1 0 0 = 1
                lock 2 0 1 = 0
                lock 3 0 0 = 0
                waitsFor 0 = 0
                waitsFor 1 = 0
                waitsFor 2 = 1
                waitsFor 3 = 4
                waitsFor 4 = IndexOutOfBounds
                lock 1 0 1 = 0
                waitsFor 1 = 1
                waitsFor 2 = 3
                waitsFor 3 = 6
                commit 0 = 3
                waitsFor 3 = 0
                """);
        LockDesk desk = new LockDesk();
        for (int i = 0; i < 60; i++) {
            row(desk, "11: sixty", "begin 3 = " + i);
            row(desk, "11: sixty", "lock " + i + " 0 4 = " + (i == 0 ? 1 : 0));
        }
        row(desk, "11: bits over 31", "waitsFor 59 = " + ((1L << 59) - 1));
        row(desk, "11: bits over 31", "at 0 58 true = 59");
        row(desk, "11: sixty", "abort 59 = 0");
    }

    private static void count() {
        run("12: count", """
                begin 1 = 0
                begin 2 = 1
                begin 3 = 2
                begin 4 = 3
                begin 5 = 4
                lock 0 0 1 = 1
                lock 1 0 1 = 1
                lock 1 0 2 = 0
                lock 2 0 4 = 0
                count 0 = 5
                count 1 = 3
                count 2 = 2
                count 3 = 0
                count 4 = 0
                count 5 = 0
                count 6 = 2
                count 7 = 0
                commit 0 = 1
                count 1 = 3
                count 2 = 1
                count 3 = 1
                count 7 = 1
                abort 3 = 0
                abort 2 = 0
                count 1 = 2
                count 2 = 0
                count 4 = 2
                count 5 = 0
                lock 4 0 0 = 1
                count 6 = 3
                lock 4 0 2 = 0
                lock 1 0 4 = -1
                count 0 = 5
                count 1 = 1
                count 4 = 3
                count 5 = 1
                count 7 = 2
                count 8 = -1
                count -1 = -1
                count 2147483647 = -1
                """);
    }

    private static void astray() {
        run("13: nothing goes astray", """
                begin 1 = 0
                begin 1 = 1
                begin 1 = 2
                astray = 0
                lock 0 0 0 = 1
                lock 1 0 0 = 1
                astray = 0
                lock 2 0 4 = 0
                astray = 0
                lock 0 0 4 = 0
                astray = 0
                commit 1 = 1
                astray = 0
                abort 0 = 1
                astray = 0
                """);
    }

    private static void run(String title, String script) {
        LockDesk desk = new LockDesk();
        for (String line : script.strip().split("\n")) {
            row(desk, title, line.strip());
        }
    }

    private static void row(LockDesk desk, String title, String row) {
        String[] sides = row.split(" = ");
        String want = sides[1];
        rows++;
        String got;
        try {
            got = Long.toString(call(desk, sides[0].split(" ")));
        } catch (RuntimeException e) {
            got = e.getClass() == EXCEPTIONS.get(want) ? want : e.getClass().getName();
        }
        if (!got.equals(want)) {
            wrong++;
            System.out.println(title + ": " + sides[0] + " answered " + got + ", due is " + want);
        }
    }

    private static void due(String title, long got, long want) {
        rows++;
        if (got != want) {
            wrong++;
            System.out.println(title + ": " + got + ", due is " + want);
        }
    }

    private static long call(LockDesk desk, String[] words) {
        switch (words[0]) {
            case "begin": return desk.begin(number(words[1]));
            case "lock": return desk.lock(number(words[1]), number(words[2]), number(words[3]));
            case "commit": return desk.commit(number(words[1]));
            case "abort": return desk.abort(number(words[1]));
            case "escalate": return desk.escalate(number(words[1]), number(words[2]));
            case "mode": return desk.mode(number(words[1]), number(words[2]));
            case "told": return desk.told(number(words[1]), number(words[2]));
            case "many": return desk.many(number(words[1]), Boolean.parseBoolean(words[2]));
            case "at": return desk.at(number(words[1]), number(words[2]), Boolean.parseBoolean(words[3]));
            case "waitsFor": return desk.waitsFor(number(words[1]));
            case "count": return desk.count(number(words[1]));
            case "astray": return desk.astray();
            default: throw new AssertionError("no such call: " + words[0]);
        }
    }

    private static int number(String word) {
        return Integer.parseInt(word);
    }
}
