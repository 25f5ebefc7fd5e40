/** Runs of calls by hand, promise by promise. */
public final class PromisesTest {
    public static void main(String[] args) {
        newObject();
        begin();
        lockExceptions();
        lockOfOneTransaction();
        lockBelow();
        lockAndQueue();
        lockAndCircles();
        commit();
        abort();
        escalate();
        mode();
        told();
        many();
        at();
        waitsFor();
        count();
        astray();
        Script.finish();
    }

    private static void newObject() {
        Script.run("1: no transactions", """
                count 0 = 0
                count 1 = 0
                count 2 = 0
                count 3 = 0
                count 4 = 0
                count 5 = 0
                count 6 = 0
                count 7 = 0
                astray = 0
                many 0 false = 0
                many 84 true = 0
                at 0 0 false = IndexOutOfBounds
                at 0 0 true = IndexOutOfBounds
                told 0 0 = IndexOutOfBounds
                mode 0 0 = IndexOutOfBounds
                waitsFor 0 = IndexOutOfBounds
                commit 0 = IndexOutOfBounds
                abort 0 = IndexOutOfBounds
                escalate 0 0 = IndexOutOfBounds
                lock 0 0 0 = IndexOutOfBounds
                """);
        LockDesk one = new LockDesk();
        one.begin(1);
        Script.due("1: objects share nothing", new LockDesk().count(0), 0);
    }

    private static void begin() {
        Script.run("2: numbers and priorities", """
                begin 0 = 0
                begin 99 = 1
                begin 50 = 2
                told 0 0 = 0
                told 0 1 = 0
                told 1 1 = 99
                told 2 1 = 50
                told 0 2 = 0
                told 0 3 = -1
                told 0 4 = -1
                count 0 = 3
                count 1 = 3
                """);
        Script.run("2: wrong priorities change nothing", """
                begin -1 = IllegalArgument
                begin 100 = IllegalArgument
                begin 2147483647 = IllegalArgument
                begin -2147483648 = IllegalArgument
                count 0 = 0
                begin 7 = 0
                """);
        LockDesk desk = new LockDesk();
        for (int i = 0; i < 60; i++) {
            Script.row(desk, "2: sixty", "begin 3 = " + i);
        }
        Script.row(desk, "2: no more than sixty", "begin 3 = IllegalState");
        Script.row(desk, "2: the first of two exceptions", "begin 100 = IllegalArgument");
        Script.row(desk, "2: nor when one has ended", "commit 5 = 0");
        Script.row(desk, "2: nor when one has ended", "begin 3 = IllegalState");
        Script.row(desk, "2: the last one is there", "lock 59 0 4 = 1");
        Script.row(desk, "2: the last one is there", "told 60 0 = IndexOutOfBounds");
        Script.row(desk, "2: nothing changed", "count 0 = 60");
    }

    private static void lockExceptions() {
        Script.run("3: exceptions, the first of several, and nothing changes", """
                begin 1 = 0
                lock -1 0 0 = IndexOutOfBounds
                lock 1 0 0 = IndexOutOfBounds
                lock 0 -1 0 = IndexOutOfBounds
                lock 0 85 0 = IndexOutOfBounds
                lock 0 85 9 = IndexOutOfBounds
                lock 2147483647 0 9 = IndexOutOfBounds
                lock 0 -2147483648 0 = IndexOutOfBounds
                lock 0 0 -1 = IllegalArgument
                lock 0 0 5 = IllegalArgument
                lock 0 84 5 = IllegalArgument
                lock 0 84 0 = IllegalState
                told 0 0 = 0
                told 0 2 = 0
                count 6 = 0
                commit 0 = 0
                lock 0 0 5 = IllegalArgument
                lock 0 0 0 = IllegalState
                begin 1 = 1
                abort 1 = 0
                lock 1 0 0 = IllegalState
                begin 1 = 2
                lock 2 0 4 = 1
                begin 1 = 3
                lock 3 0 0 = 0
                lock 3 0 0 = IllegalState
                lock 3 1 0 = IllegalState
                many 0 true = 1
                """);
    }

    private static void lockOfOneTransaction() {
        int[][] leastAbove = {
            {0, 1, 2, 3, 4}, {1, 1, 3, 3, 4}, {2, 3, 2, 3, 4}, {3, 3, 3, 3, 4}, {4, 4, 4, 4, 4}};
        for (int held = 0; held < 5; held++) {
            for (int asked = 0; asked < 5; asked++) {
                Script.run("3: the least above", "begin 1 = 0\nlock 0 0 " + held + " = 1\nlock 0 0 " + asked
                        + " = 1\nmode 0 0 = " + leastAbove[held][asked] + "\ntold 0 0 = 0\ntold 0 2 = 1");
            }
        }
        Script.run("3: what is held already is no request", """
                begin 1 = 0
                begin 1 = 1
                lock 0 0 2 = 1
                lock 1 0 2 = 1
                lock 0 0 0 = 1
                lock 0 0 2 = 1
                count 6 = 2
                count 7 = 0
                lock 1 0 4 = 0
                lock 0 0 2 = 1
                lock 0 0 0 = 1
                many 0 true = 1
                """);
    }

    private static void lockBelow() {
        Script.run("3: only the one above counts", """
                begin 1 = 0
                lock 0 0 4 = 1
                lock 0 5 0 = IllegalState
                lock 0 4 1 = 1
                lock 0 5 0 = IllegalState
                lock 0 20 1 = 1
                lock 0 84 4 = 1
                lock 0 81 4 = 1
                lock 0 80 2 = IllegalState
                """);
    }

    private static void lockAndQueue() {
        String[] together = {"11110", "11000", "10100", "10000", "00000"};
        for (int held = 0; held < 5; held++) {
            for (int asked = 0; asked < 5; asked++) {
                char answer = together[held].charAt(asked);
                Script.run("3: what goes together", "begin 1 = 0\nbegin 1 = 1\nlock 0 0 " + held + " = 1\nlock 1 0 "
                        + asked + " = " + answer + "\nmode 1 0 = " + (answer == '1' ? asked : -1)
                        + "\ncount 6 = " + (answer == '1' ? 2 : 1));
            }
        }
        Script.run("3: nobody overtakes", """
                begin 1 = 0
                begin 1 = 1
                begin 1 = 2
                lock 0 0 0 = 1
                lock 1 0 4 = 0
                lock 2 0 0 = 0
                at 0 0 true = 1
                at 0 1 true = 2
                """);
        Script.run("3: those that hold the object go before others, behind their own kind", """
                begin 1 = 0
                begin 2 = 1
                begin 3 = 2
                begin 4 = 3
                begin 5 = 4
                lock 0 0 0 = 1
                lock 1 0 0 = 1
                lock 2 0 2 = 1
                lock 3 0 4 = 0
                lock 4 0 4 = 0
                lock 1 0 1 = 0
                lock 0 0 1 = 0
                many 0 true = 4
                at 0 0 true = 1
                at 0 1 true = 0
                at 0 2 true = 3
                at 0 3 true = 4
                mode 0 0 = 0
                told 0 4 = 1
                commit 2 = 2
                mode 0 0 = 1
                mode 1 0 = 1
                """);
        Script.run("3: one that wants more is granted before those that wait", """
                begin 1 = 0
                begin 1 = 1
                lock 0 0 0 = 1
                lock 1 0 4 = 0
                lock 0 0 3 = 1
                mode 0 0 = 3
                count 6 = 2
                at 0 0 true = 1
                """);
    }

    private static void lockAndCircles() {
        Script.run("3: two in a circle, the asking one is given up", """
                begin 5 = 0
                begin 5 = 1
                lock 0 0 2 = 1
                lock 1 0 2 = 1
                lock 0 0 4 = 0
                lock 1 0 4 = -1
                told 1 0 = 3
                told 1 2 = 0
                told 0 0 = 0
                mode 0 0 = 4
                count 4 = 1
                count 5 = 1
                count 6 = 2
                count 7 = 1
                """);
        Script.run("3: two in a circle, the other one is given up", """
                begin 4 = 0
                begin 5 = 1
                lock 0 0 2 = 1
                lock 1 0 2 = 1
                lock 0 0 4 = 0
                lock 1 0 4 = 1
                told 0 0 = 3
                told 0 3 = -1
                mode 1 0 = 4
                many 0 true = 0
                count 5 = 1
                count 6 = 2
                count 7 = 1
                """);
        Script.run("3: of several with the least priority, the greatest number", """
                begin 5 = 0
                begin 4 = 1
                begin 4 = 2
                begin 6 = 3
                lock 0 0 1 = 1
                lock 1 0 1 = 1
                lock 2 0 1 = 1
                lock 3 0 1 = 1
                lock 0 1 4 = 1
                lock 1 2 4 = 1
                lock 2 3 4 = 1
                lock 3 4 4 = 1
                lock 0 2 4 = 0
                lock 1 3 4 = 0
                lock 2 4 4 = 0
                lock 3 1 4 = 0
                told 2 0 = 3
                told 1 0 = 0
                told 0 0 = 1
                told 3 0 = 1
                """);
        Script.run("3: as many are given up as it takes", """
                begin 9 = 0
                begin 3 = 1
                begin 4 = 2
                lock 0 0 1 = 1
                lock 1 0 1 = 1
                lock 2 0 1 = 1
                lock 0 1 4 = 1
                lock 1 2 2 = 1
                lock 2 2 2 = 1
                lock 1 1 2 = 0
                lock 2 1 2 = 0
                lock 0 2 4 = 1
                told 1 0 = 3
                told 2 0 = 3
                count 5 = 2
                count 7 = 1
                many 0 false = 1
                """);
        Script.run("3: no circle left, but it waits", """
                begin 9 = 0
                begin 3 = 1
                begin 1 = 2
                lock 0 0 1 = 1
                lock 1 0 1 = 1
                lock 2 0 1 = 1
                lock 0 1 4 = 1
                lock 1 2 2 = 1
                lock 2 2 2 = 1
                lock 1 1 2 = 0
                lock 0 2 4 = 0
                told 1 0 = 3
                told 2 0 = 0
                waitsFor 0 = 4
                count 5 = 1
                """);
        Script.run("3: who waits for a circle, or is waited for, is not of it", """
                begin 0 = 0
                begin 0 = 1
                begin 8 = 2
                begin 9 = 3
                lock 0 0 1 = 1
                lock 1 0 1 = 1
                lock 2 0 1 = 1
                lock 3 0 1 = 1
                lock 1 1 2 = 1
                lock 2 1 2 = 1
                lock 2 3 4 = 1
                lock 3 2 4 = 1
                lock 0 3 2 = 0
                lock 2 2 4 = 0
                lock 3 1 4 = 0
                told 0 0 = 0
                told 1 0 = 0
                told 2 0 = 3
                told 3 0 = 1
                waitsFor 3 = 2
                count 5 = 1
                """);
        Script.run("3: a circle by the queue alone", """
                begin 5 = 0
                begin 6 = 1
                begin 7 = 2
                lock 0 0 1 = 1
                lock 1 0 1 = 1
                lock 2 0 1 = 1
                lock 0 1 2 = 1
                lock 1 2 4 = 1
                lock 2 1 4 = 0
                lock 1 1 2 = 0
                waitsFor 1 = 4
                lock 0 2 2 = -1
                told 2 0 = 0
                told 1 0 = 1
                count 5 = 1
                """);
    }

    private static void commit() {
        Script.run("4: what was held is served, and counted", """
                begin 1 = 0
                begin 1 = 1
                begin 1 = 2
                begin 1 = 3
                lock 0 0 1 = 1
                lock 1 0 1 = 1
                lock 2 0 1 = 1
                lock 3 0 1 = 1
                lock 0 1 4 = 1
                lock 0 84 0 = IllegalState
                lock 0 4 4 = 1
                lock 1 1 0 = 0
                lock 2 1 2 = 0
                lock 3 4 4 = 0
                commit 0 = 3
                told 0 0 = 2
                told 0 2 = 0
                mode 0 0 = -1
                mode 1 1 = 0
                mode 2 1 = 2
                mode 3 4 = 4
                count 7 = 3
                many 0 false = 3
                """);
        Script.run("4: served only as far as it goes", """
                begin 1 = 0
                begin 1 = 1
                begin 1 = 2
                begin 1 = 3
                lock 0 0 4 = 1
                lock 1 0 2 = 0
                lock 2 0 1 = 0
                lock 3 0 2 = 0
                commit 0 = 1
                told 1 0 = 0
                told 2 0 = 1
                told 3 0 = 1
                commit 1 = 1
                commit 2 = 1
                commit 3 = 0
                """);
        Script.run("4: exceptions change nothing", """
                begin 1 = 0
                begin 1 = 1
                lock 0 0 4 = 1
                lock 1 0 4 = 0
                commit -1 = IndexOutOfBounds
                commit 2 = IndexOutOfBounds
                commit 1 = IllegalState
                told 1 3 = 0
                commit 0 = 1
                commit 0 = IllegalState
                abort 1 = 0
                commit 1 = IllegalState
                count 3 = 1
                count 4 = 1
                """);
    }

    private static void abort() {
        Script.run("5: one that waits is out of the queue, and those behind it are served", """
                begin 1 = 0
                begin 1 = 1
                begin 1 = 2
                begin 1 = 3
                lock 0 0 2 = 1
                lock 1 0 4 = 0
                lock 2 0 2 = 0
                lock 3 0 0 = 0
                abort 1 = 2
                told 1 0 = 3
                told 1 3 = -1
                told 1 4 = -1
                many 0 true = 0
                many 0 false = 3
                count 4 = 1
                count 5 = 0
                count 7 = 2
                """);
        Script.run("5: what it held, and what it waited for", """
                begin 1 = 0
                begin 1 = 1
                begin 1 = 2
                begin 1 = 3
                lock 0 0 1 = 1
                lock 1 0 1 = 1
                lock 2 0 1 = 1
                lock 3 0 1 = 1
                lock 0 3 0 = 1
                lock 1 2 4 = 1
                lock 1 3 4 = 0
                lock 2 3 0 = 0
                lock 3 2 4 = 0
                abort 1 = 2
                mode 2 3 = 0
                mode 3 2 = 4
                mode 1 2 = -1
                """);
        Script.run("5: exceptions change nothing", """
                abort 0 = IndexOutOfBounds
                begin 1 = 0
                abort -1 = IndexOutOfBounds
                abort 1 = IndexOutOfBounds
                abort 0 = 0
                abort 0 = IllegalState
                begin 1 = 1
                commit 1 = 0
                abort 1 = IllegalState
                told 1 0 = 2
                count 4 = 1
                """);
    }

    private static void escalate() {
        Script.run("6: those below, and below those, in S", """
                begin 1 = 0
                lock 0 0 0 = 1
                lock 0 1 0 = 1
                lock 0 2 2 = 1
                lock 0 5 2 = 1
                lock 0 21 2 = 1
                escalate 0 1 = 2
                mode 0 0 = 0
                mode 0 1 = 2
                mode 0 2 = 2
                mode 0 5 = -1
                mode 0 21 = -1
                told 0 2 = 3
                escalate 0 0 = 2
                mode 0 0 = 2
                told 0 2 = 1
                """);
        for (int mode = 0; mode < 5; mode++) {
            boolean writes = mode == 1 || mode == 3 || mode == 4;
            Script.run("6: S or X", "begin 1 = 0\nlock 0 0 1 = 1\nlock 0 1 1 = 1\nlock 0 8 " + mode
                    + " = 1\nescalate 0 1 = 1\nmode 0 1 = " + (writes ? 4 : 3) + "\nmode 0 0 = 1");
        }
        Script.run("6: a write far below", """
                begin 1 = 0
                lock 0 0 1 = 1
                lock 0 4 1 = 1
                lock 0 20 1 = 1
                lock 0 84 4 = 1
                lock 0 3 2 = 1
                escalate 0 3 = 0
                escalate 0 20 = 1
                mode 0 20 = 4
                escalate 0 0 = 3
                mode 0 0 = 4
                """);
        Script.run("6: from the top to the lowest level", """
                begin 1 = 0
                lock 0 0 1 = 1
                lock 0 1 0 = 1
                lock 0 4 1 = 1
                lock 0 20 1 = 1
                lock 0 81 0 = 1
                lock 0 84 4 = 1
                escalate 0 0 = 5
                mode 0 0 = 4
                mode 0 81 = -1
                mode 0 84 = -1
                told 0 2 = 1
                """);
        Script.run("6: nothing below", """
                begin 1 = 0
                lock 0 0 0 = 1
                escalate 0 0 = 0
                mode 0 0 = 2
                lock 0 0 4 = 1
                escalate 0 0 = 0
                mode 0 0 = 4
                """);
        Script.run("6: it does not go", """
                begin 1 = 0
                begin 1 = 1
                lock 0 0 1 = 1
                lock 0 1 2 = 1
                lock 1 0 1 = 1
                escalate 0 0 = -1
                mode 0 0 = 1
                mode 0 1 = 2
                told 0 2 = 2
                commit 1 = 0
                begin 1 = 2
                lock 2 0 0 = 1
                escalate 0 0 = 1
                mode 0 0 = 3
                """);
        Script.run("6: the queue is not asked", """
                begin 1 = 0
                begin 1 = 1
                begin 1 = 2
                lock 0 0 0 = 1
                lock 0 1 0 = 1
                lock 0 5 2 = 1
                lock 0 6 0 = 1
                lock 1 0 0 = 1
                lock 1 1 0 = 1
                lock 1 5 0 = 1
                lock 2 0 1 = 1
                lock 2 1 4 = 0
                escalate 0 1 = 2
                mode 0 1 = 2
                mode 0 5 = -1
                mode 1 5 = 0
                waitsFor 2 = 3
                many 1 true = 1
                astray = 0
                """);
        Script.run("6: only what stands below the object", """
                begin 1 = 0
                lock 0 0 1 = 1
                lock 0 1 1 = 1
                lock 0 2 1 = 1
                lock 0 4 1 = 1
                lock 0 5 1 = 1
                lock 0 9 4 = 1
                lock 0 12 2 = 1
                lock 0 17 4 = 1
                lock 0 21 2 = 1
                lock 0 24 2 = 1
                escalate 0 5 = 2
                mode 0 5 = 3
                escalate 0 2 = 2
                mode 0 2 = 4
                told 0 2 = 6
                mode 0 17 = 4
                mode 0 1 = 1
                """);
        Script.run("6: exceptions change nothing", """
                begin 1 = 0
                lock 0 0 0 = 1
                escalate -1 0 = IndexOutOfBounds
                escalate 1 0 = IndexOutOfBounds
                escalate 0 -1 = IndexOutOfBounds
                escalate 0 85 = IndexOutOfBounds
                escalate 0 1 = IllegalState
                mode 0 0 = 0
                begin 1 = 1
                lock 1 0 2 = 1
                lock 0 0 1 = 0
                escalate 0 0 = IllegalState
                mode 0 0 = 0
                commit 1 = 1
                commit 0 = 0
                escalate 0 0 = IllegalState
                begin 1 = 2
                lock 2 0 0 = 1
                abort 2 = 0
                escalate 2 0 = IllegalState
                """);
    }

    private static void mode() {
        Script.run("7: what is held, not what is wanted", """
                begin 1 = 0
                begin 1 = 1
                mode 0 0 = -1
                lock 0 0 0 = 1
                lock 1 0 2 = 1
                lock 0 0 1 = 0
                mode 0 0 = 0
                mode 0 84 = -1
                mode -1 0 = IndexOutOfBounds
                mode 2 0 = IndexOutOfBounds
                mode 0 -1 = IndexOutOfBounds
                mode 0 85 = IndexOutOfBounds
                commit 1 = 1
                mode 0 0 = 1
                mode 1 0 = -1
                """);
    }

    private static void told() {
        Script.run("8: told", """
                begin 7 = 0
                begin 8 = 1
                lock 0 0 1 = 1
                lock 1 0 1 = 1
                lock 0 2 2 = 1
                lock 1 2 0 = 1
                lock 1 2 1 = 0
                told 1 0 = 1
                told 1 1 = 8
                told 1 2 = 2
                told 1 3 = 2
                told 1 4 = 1
                told 0 3 = -1
                told 0 4 = -1
                told 0 5 = IllegalArgument
                told 0 -1 = IllegalArgument
                told 2 5 = IndexOutOfBounds
                told -1 0 = IndexOutOfBounds
                told 60 0 = IndexOutOfBounds
                commit 0 = 1
                told 0 0 = 2
                told 0 1 = 7
                told 1 3 = -1
                told 1 4 = -1
                abort 1 = 0
                told 1 0 = 3
                told 1 1 = 8
                told 1 2 = 0
                """);
        Script.run("8: what is wanted is the least above", """
                begin 7 = 0
                begin 8 = 1
                lock 0 0 1 = 1
                lock 1 0 1 = 1
                lock 0 0 2 = 0
                told 0 4 = 3
                told 0 3 = 0
                """);
    }

    private static void many() {
        Script.run("9: many", """
                many -1 false = IndexOutOfBounds
                many 85 false = IndexOutOfBounds
                many -1 true = IndexOutOfBounds
                many 85 true = IndexOutOfBounds
                begin 1 = 0
                begin 1 = 1
                begin 1 = 2
                lock 0 0 2 = 1
                lock 1 0 0 = 1
                lock 2 0 1 = 0
                many 0 false = 2
                many 0 true = 1
                lock 1 0 1 = 0
                many 0 false = 2
                many 0 true = 2
                many 84 false = 0
                many 84 true = 0
                """);
    }

    private static void at() {
        Script.run("10: holders by numbers, a queue in its order", """
                begin 1 = 0
                begin 1 = 1
                begin 1 = 2
                begin 1 = 3
                begin 1 = 4
                lock 2 0 2 = 1
                lock 0 0 0 = 1
                lock 1 0 2 = 1
                lock 4 0 1 = 0
                lock 3 0 1 = 0
                at 0 0 false = 0
                at 0 1 false = 1
                at 0 2 false = 2
                at 0 3 false = IndexOutOfBounds
                at 0 -1 false = IndexOutOfBounds
                at 0 0 true = 4
                at 0 1 true = 3
                at 0 2 true = IndexOutOfBounds
                at 0 -1 true = IndexOutOfBounds
                at 0 2147483647 true = IndexOutOfBounds
                at -1 0 true = IndexOutOfBounds
                at 85 0 true = IndexOutOfBounds
                at 85 0 false = IndexOutOfBounds
                at 1 0 false = IndexOutOfBounds
                """);
    }

    private static void waitsFor() {
        Script.run("11: holders in the way, and all that stand before", """
                waitsFor -1 = IndexOutOfBounds
                begin 1 = 0
                begin 1 = 1
                begin 1 = 2
                begin 1 = 3
                lock 0 0 2 = 1
                lock 1 0 0 = 1
                lock 2 0 1 = 0
                lock 3 0 0 = 0
                waitsFor 0 = 0
                waitsFor 1 = 0
                waitsFor 2 = 1
                waitsFor 3 = 4
                waitsFor 4 = IndexOutOfBounds
                lock 1 0 1 = 0
                waitsFor 1 = 1
                waitsFor 2 = 3
                waitsFor 3 = 6
                commit 0 = 3
                waitsFor 3 = 0
                """);
        LockDesk desk = new LockDesk();
        for (int i = 0; i < 60; i++) {
            Script.row(desk, "11: sixty", "begin 3 = " + i);
            Script.row(desk, "11: sixty", "lock " + i + " 0 4 = " + (i == 0 ? 1 : 0));
        }
        Script.row(desk, "11: bits over 31", "waitsFor 59 = " + ((1L << 59) - 1));
        Script.row(desk, "11: bits over 31", "at 0 58 true = 59");
        Script.row(desk, "11: sixty", "abort 59 = 0");
    }

    private static void count() {
        Script.run("12: count", """
                begin 1 = 0
                begin 2 = 1
                begin 3 = 2
                begin 4 = 3
                begin 5 = 4
                lock 0 0 1 = 1
                lock 1 0 1 = 1
                lock 1 0 2 = 0
                lock 2 0 4 = 0
                count 0 = 5
                count 1 = 3
                count 2 = 2
                count 3 = 0
                count 4 = 0
                count 5 = 0
                count 6 = 2
                count 7 = 0
                commit 0 = 1
                count 1 = 3
                count 2 = 1
                count 3 = 1
                count 7 = 1
                abort 3 = 0
                abort 2 = 0
                count 1 = 2
                count 2 = 0
                count 4 = 2
                count 5 = 0
                lock 4 0 0 = 1
                count 6 = 3
                lock 4 0 2 = 0
                lock 1 0 4 = -1
                count 0 = 5
                count 1 = 1
                count 4 = 3
                count 5 = 1
                count 7 = 2
                count 8 = -1
                count -1 = -1
                count 2147483647 = -1
                """);
    }

    private static void astray() {
        Script.run("13: nothing goes astray", """
                begin 1 = 0
                begin 1 = 1
                begin 1 = 2
                astray = 0
                lock 0 0 0 = 1
                lock 1 0 0 = 1
                astray = 0
                lock 2 0 4 = 0
                astray = 0
                lock 0 0 4 = 0
                astray = 0
                commit 1 = 1
                astray = 0
                abort 0 = 1
                astray = 0
                """);
    }
}
