import java.util.ArrayList;
import java.util.List;
import java.util.Random;
import java.util.TreeMap;
import java.util.TreeSet;

/** Random runs, the same ones every time, against a slow second form of the document. */
public final class ModelTest {
    private static final int RUNS = 6000;
    private static final int CALLS = 512;
    private static final String NO_PLACE = "IndexOutOfBoundsException";
    private static final String NO_ARGUMENT = "IllegalArgumentException";
    private static final String NO_STATE = "IllegalStateException";

    private static int wrong = 0;
    private static final long[] seen = new long[8];

    public static void main(String[] args) {
        for (int run = 0; run < RUNS && wrong < 10; run++) {
            compare(run);
        }
        for (int what = 0; what < seen.length; what++) {
            System.out.println("count(" + what + ") over all runs: " + seen[what]);
            if (seen[what] == 0) {
                wrong++;
                System.out.println("the runs do not come to count(" + what + ")");
            }
        }
        System.out.println(RUNS + " runs, " + wrong + " wrong");
        if (wrong != 0) {
            System.exit(1);
        }
    }

    private static void compare(int run) {
        Random random = new Random(run);
        Calls calls = new Calls(random);
        LockDesk desk = new LockDesk();
        Model model = new Model();
        List<String> told = new ArrayList<>();
        for (int i = 0; i < CALLS; i++) {
            int[] call = calls.next(model, i);
            String got = answer(desk, call);
            String due = model.answer(call);
            told.add(name(call) + " " + got);
            if (!got.equals(due)) {
                wrong++;
                System.out.println("run " + run + ", call " + i + ": due is " + due + " in\n  "
                        + String.join("\n  ", told.subList(Math.max(0, i - 40), i + 1)));
                return;
            }
        }
        for (int what = 0; what < seen.length; what++) {
            seen[what] += model.counted(what);
        }
    }

    private static final String[] NAMES = {"begin", "lock", "commit", "abort", "escalate", "mode", "told",
        "many", "at", "waitsFor", "count", "astray"};

    private static String name(int[] call) {
        return NAMES[call[0]] + "(" + call[1] + ", " + call[2] + ", " + call[3] + ")";
    }

    private static String answer(LockDesk desk, int[] c) {
        try {
            switch (NAMES[c[0]]) {
                case "begin": return "" + desk.begin(c[1]);
                case "lock": return "" + desk.lock(c[1], c[2], c[3]);
                case "commit": return "" + desk.commit(c[1]);
                case "abort": return "" + desk.abort(c[1]);
                case "escalate": return "" + desk.escalate(c[1], c[2]);
                case "mode": return "" + desk.mode(c[1], c[2]);
                case "told": return "" + desk.told(c[1], c[2]);
                case "many": return "" + desk.many(c[1], c[3] == 1);
                case "at": return "" + desk.at(c[1], c[2], c[3] == 1);
                case "waitsFor": return "" + desk.waitsFor(c[1]);
                case "count": return "" + desk.count(c[1]);
                default: return "" + desk.astray();
            }
        } catch (RuntimeException e) {
            return e.getClass().getSimpleName();
        }
    }

    /** Chooses calls: each run has its own few objects, so that transactions meet. */
    private static final class Calls {
        private static final int[] WILD = {-1, -2, 5, 60, 61, 85, 86, 100, Integer.MAX_VALUE, Integer.MIN_VALUE};
        private final Random random;
        private final int[] objects;
        private final int transactions;
        private final int looks;
        private final int readers;
        private final int priorities;

        Calls(Random random) {
            this.random = random;
            transactions = 2 + random.nextInt(random.nextInt(4) == 0 ? 59 : 8);
            looks = random.nextInt(70);
            readers = random.nextInt(100);
            priorities = random.nextBoolean() ? 2 : 100;
            TreeSet<Integer> chosen = new TreeSet<>(List.of(0));
            int leaves = 1 + random.nextInt(4);
            for (int i = 0; i < leaves; i++) {
                for (int o = random.nextInt(85); o > 0; o = (o - 1) / 4) {
                    chosen.add(o);
                }
            }
            objects = chosen.stream().mapToInt(Integer::intValue).toArray();
        }

        int[] next(Model model, int i) {
            int[] call = i < 2 ? new int[] {0, random.nextInt(100), 0, 0} : pick(model);
            if (random.nextInt(60) == 0) {
                call[1 + random.nextInt(3)] = WILD[random.nextInt(WILD.length)];
            }
            return call;
        }

        private int[] pick(Model model) {
            int there = model.states.size();
            int t = random.nextInt(Math.max(1, there));
            int o = objects[random.nextInt(objects.length)];
            if (random.nextInt(100) < looks) {
                return look(model, t, o);
            }
            if (model.active() < transactions && random.nextInt(4) == 0) {
                return new int[] {0, random.nextInt(priorities), 0, 0};
            }
            int kind = random.nextInt(100);
            if (kind < 4) {
                return new int[] {2, t, 0, 0};
            }
            if (kind < 7) {
                return new int[] {3, t, 0, 0};
            }
            if (kind < 15) {
                return new int[] {4, t, o, 0};
            }
            return ask(model, t, o);
        }

        private int[] ask(Model model, int t, int o) {
            int active = t;
            for (int tries = 0; tries < 20 && model.states.get(active) != 0; tries++) {
                active = random.nextInt(model.states.size());
            }
            int asked = o;
            while (asked > 0 && !model.held.get(active).containsKey((asked - 1) / 4) && random.nextInt(20) > 0) {
                asked = (asked - 1) / 4;
            }
            boolean intends = asked != objects[objects.length - 1] && random.nextInt(100) < 60;
            boolean reads = random.nextInt(100) < readers;
            int mode = intends ? (reads ? 0 : 1) : reads ? 2 : 3 + random.nextInt(2);
            return new int[] {1, active, asked, random.nextInt(10) == 0 ? random.nextInt(5) : mode};
        }

        private int[] look(Model model, int t, int o) {
            int queue = random.nextInt(2);
            switch (random.nextInt(7)) {
                case 0: return new int[] {5, t, o, 0};
                case 1: return new int[] {6, t, random.nextInt(5), 0};
                case 2: return new int[] {7, o, 0, queue};
                case 3: return new int[] {8, o, random.nextInt(3), queue};
                case 4: return new int[] {9, t, 0, 0};
                case 5: return new int[] {10, random.nextInt(9), 0, 0};
                default: return new int[] {11, 0, 0, 0};
            }
        }
    }

    /** The document once more, with nothing in mind but its words. */
    private static final class Model {
        private static final String[] TOGETHER = {"0 0", "0 1", "0 2", "0 3", "1 1", "2 2"};
        private static final String[] LESS = {"0 1", "0 2", "0 3", "0 4", "1 3", "1 4", "2 3", "2 4", "3 4"};

        final List<Integer> states = new ArrayList<>();
        final List<Integer> priorities = new ArrayList<>();
        final List<TreeMap<Integer, Integer>> held = new ArrayList<>();
        final List<Integer> wants = new ArrayList<>();
        final List<Integer> waitsAt = new ArrayList<>();
        final List<List<Integer>> queues = new ArrayList<>();
        private int circles = 0;
        private int atOnce = 0;
        private int later = 0;

        Model() {
            for (int o = 0; o < 85; o++) {
                queues.add(new ArrayList<>());
            }
        }

        int active() {
            return (int) states.stream().filter(s -> s < 2).count();
        }

        String answer(int[] c) {
            switch (NAMES[c[0]]) {
                case "begin": return begin(c[1]);
                case "lock": return lock(c[1], c[2], c[3]);
                case "commit": return finish(c[1], 2, 0);
                case "abort": return finish(c[1], 3, 1);
                case "escalate": return escalate(c[1], c[2]);
                case "mode": return isThere(c[1]) && isObject(c[2]) ? "" + mode(c[1], c[2]) : NO_PLACE;
                case "told": return told(c[1], c[2]);
                case "many": return isObject(c[1]) ? "" + listed(c[1], c[3] == 1).size() : NO_PLACE;
                case "at": return at(c[1], c[2], c[3] == 1);
                case "waitsFor": return isThere(c[1]) ? "" + bits(waitsFor(c[1])) : NO_PLACE;
                case "count": return "" + counted(c[1]);
                default: return "0";
            }
        }

        private boolean isThere(int t) {
            return t >= 0 && t < states.size();
        }

        private static boolean isObject(int o) {
            return o >= 0 && o <= 84;
        }

        private static boolean goTogether(int a, int b) {
            return List.of(TOGETHER).contains(a + " " + b) || List.of(TOGETHER).contains(b + " " + a);
        }

        private static boolean isLess(int a, int b) {
            return List.of(LESS).contains(a + " " + b);
        }

        private static int leastAbove(int a, int b) {
            List<Integer> above = new ArrayList<>();
            for (int m = 0; m < 5; m++) {
                if ((m == a || isLess(a, m)) && (m == b || isLess(b, m))) {
                    above.add(m);
                }
            }
            for (int m : above) {
                if (above.stream().allMatch(n -> n == m || isLess(m, n))) {
                    return m;
                }
            }
            throw new AssertionError("no least above");
        }

        private int mode(int t, int o) {
            return held.get(t).getOrDefault(o, -1);
        }

        private boolean goes(int t, int o, int wanted) {
            for (int u = 0; u < states.size(); u++) {
                if (u != t && mode(u, o) >= 0 && !goTogether(wanted, mode(u, o))) {
                    return false;
                }
            }
            return true;
        }

        private String begin(int priority) {
            if (priority < 0 || priority > 99) {
                return NO_ARGUMENT;
            }
            if (states.size() == 60) {
                return NO_STATE;
            }
            states.add(0);
            priorities.add(priority);
            held.add(new TreeMap<>());
            wants.add(-1);
            waitsAt.add(-1);
            return "" + (states.size() - 1);
        }

        private String lock(int t, int o, int m) {
            if (!isThere(t) || !isObject(o)) {
                return NO_PLACE;
            }
            if (m < 0 || m > 4) {
                return NO_ARGUMENT;
            }
            if (states.get(t) != 0) {
                return NO_STATE;
            }
            if (o > 0) {
                int above = mode(t, (o - 1) / 4);
                if (above == -1 || (m != 0 && m != 2 && (above == 0 || above == 2))) {
                    return NO_STATE;
                }
            }
            int wanted = mode(t, o) == -1 ? m : leastAbove(mode(t, o), m);
            if (wanted == mode(t, o)) {
                return "1";
            }
            wants.set(t, wanted);
            waitsAt.set(t, o);
            List<Integer> queue = queues.get(o);
            int place = queue.size();
            while (mode(t, o) >= 0 && place > 0 && mode(queue.get(place - 1), o) == -1) {
                place--;
            }
            queue.add(place, t);
            if (serve(o).contains(t)) {
                atOnce++;
                later--;
                return "1";
            }
            states.set(t, 1);
            TreeSet<Integer> circle = circleOf(t);
            while (states.get(t) == 1 && !circle.isEmpty()) {
                int victim = circle.last();
                for (int u : circle.descendingSet()) {
                    victim = priorities.get(u) < priorities.get(victim) ? u : victim;
                }
                states.set(victim, 3);
                circles++;
                end(victim);
                circle = circleOf(t);
            }
            return states.get(t) == 0 ? "1" : states.get(t) == 1 ? "0" : "-1";
        }

        private List<Integer> serve(int o) {
            List<Integer> granted = new ArrayList<>();
            List<Integer> queue = queues.get(o);
            while (!queue.isEmpty() && goes(queue.get(0), o, wants.get(queue.get(0)))) {
                int t = queue.remove(0);
                held.get(t).put(o, wants.get(t));
                states.set(t, 0);
                wants.set(t, -1);
                waitsAt.set(t, -1);
                granted.add(t);
                later++;
            }
            return granted;
        }

        private TreeSet<Integer> waitsFor(int t) {
            TreeSet<Integer> found = new TreeSet<>();
            int o = waitsAt.get(t);
            if (o == -1) {
                return found;
            }
            for (int u = 0; u < states.size(); u++) {
                if (u != t && mode(u, o) >= 0 && !goTogether(wants.get(t), mode(u, o))) {
                    found.add(u);
                }
            }
            found.addAll(queues.get(o).subList(0, queues.get(o).indexOf(t)));
            return found;
        }

        private TreeSet<Integer> comesTo(int t) {
            TreeSet<Integer> found = new TreeSet<>();
            List<Integer> open = new ArrayList<>(waitsFor(t));
            while (!open.isEmpty()) {
                int u = open.remove(open.size() - 1);
                if (found.add(u)) {
                    open.addAll(waitsFor(u));
                }
            }
            return found;
        }

        private TreeSet<Integer> circleOf(int t) {
            TreeSet<Integer> found = comesTo(t);
            found.removeIf(u -> !comesTo(u).contains(t));
            return found;
        }

        private int end(int t) {
            TreeSet<Integer> served = new TreeSet<>(held.get(t).keySet());
            if (waitsAt.get(t) >= 0) {
                served.add(waitsAt.get(t));
                queues.get(waitsAt.get(t)).remove((Integer) t);
                waitsAt.set(t, -1);
                wants.set(t, -1);
            }
            held.get(t).clear();
            int granted = 0;
            for (int o : served) {
                granted += serve(o).size();
            }
            return granted;
        }

        private String finish(int t, int state, int last) {
            if (!isThere(t)) {
                return NO_PLACE;
            }
            if (states.get(t) > last) {
                return NO_STATE;
            }
            states.set(t, state);
            return "" + end(t);
        }

        private String escalate(int t, int o) {
            if (!isThere(t) || !isObject(o)) {
                return NO_PLACE;
            }
            if (states.get(t) != 0 || mode(t, o) == -1) {
                return NO_STATE;
            }
            TreeSet<Integer> below = new TreeSet<>();
            boolean writes = false;
            TreeSet<Integer> tree = new TreeSet<>(List.of(o));
            for (int p = o; p <= 84; p++) {
                if (tree.contains(p)) {
                    tree.addAll(List.of(4 * p + 1, 4 * p + 2, 4 * p + 3, 4 * p + 4));
                }
                if (p > o && tree.contains(p) && mode(t, p) >= 0) {
                    below.add(p);
                    writes |= mode(t, p) != 0 && mode(t, p) != 2;
                }
            }
            int wanted = leastAbove(mode(t, o), writes ? 4 : 2);
            if (!goes(t, o, wanted)) {
                return "-1";
            }
            held.get(t).put(o, wanted);
            held.get(t).keySet().removeAll(below);
            below.forEach(this::serve);
            serve(o);
            return "" + below.size();
        }

        private String told(int t, int what) {
            if (!isThere(t)) {
                return NO_PLACE;
            }
            switch (what) {
                case 0: return "" + states.get(t);
                case 1: return "" + priorities.get(t);
                case 2: return "" + held.get(t).size();
                case 3: return "" + waitsAt.get(t);
                case 4: return "" + wants.get(t);
                default: return NO_ARGUMENT;
            }
        }

        private List<Integer> listed(int o, boolean queue) {
            if (queue) {
                return queues.get(o);
            }
            List<Integer> holders = new ArrayList<>();
            for (int t = 0; t < states.size(); t++) {
                if (mode(t, o) >= 0) {
                    holders.add(t);
                }
            }
            return holders;
        }

        private String at(int o, int i, boolean queue) {
            if (!isObject(o) || i < 0 || i >= listed(o, queue).size()) {
                return NO_PLACE;
            }
            return "" + listed(o, queue).get(i);
        }

        private static long bits(TreeSet<Integer> set) {
            long bits = 0;
            for (int t : set) {
                bits |= 1L << t;
            }
            return bits;
        }

        int counted(int what) {
            switch (what) {
                case 0: return states.size();
                case 1: case 2: case 3: case 4:
                    return (int) states.stream().filter(s -> s == what - 1).count();
                case 5: return circles;
                case 6: return atOnce;
                case 7: return later;
                default: return -1;
            }
        }
    }
}
