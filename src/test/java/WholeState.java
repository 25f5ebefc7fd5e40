import java.util.ArrayList;
import java.util.List;

/**
 * All that can be read of the state to which a run of calls leads. An object serves 512 calls, so the run is
 * made again on a new object whenever these are used up.
 */
final class WholeState {
    private final List<String> calls;
    private final List<String> found = new ArrayList<>();
    private LockDesk desk;
    private int left = 0;

    private WholeState(List<String> calls) {
        this.calls = calls;
    }

    static List<String> after(List<String> calls) {
        WholeState state = new WholeState(calls);
        state.readAll();
        return state.found;
    }

    private void readAll() {
        read("astray");
        for (int what = 7; what >= 0; what--) {
            read("count " + what);
        }
        int transactions = read("count 0");
        for (int t = 0; t < transactions; t++) {
            readTransaction(t);
        }
        for (int o = 0; o < 85; o++) {
            readList(o, false);
            readList(o, true);
        }
    }

    private void readTransaction(int t) {
        for (int what = 0; what < 5; what++) {
            read("told " + t + " " + what);
        }
        int holds = read("told " + t + " 2");
        int seen = 0;
        for (int o = 0; o < 85 && seen < holds; o++) {
            seen += read("mode " + t + " " + o) == LockDesk.NONE ? 0 : 1;
        }
        readLong("waitsFor " + t);
    }

    private void readList(int o, boolean queue) {
        int many = read("many " + o + " " + queue);
        for (int i = 0; i < many; i++) {
            read("at " + o + " " + i + " " + queue);
        }
    }

    private int read(String call) {
        return (int) readLong(call);
    }

    private long readLong(String call) {
        if (left == 0) {
            desk = new LockDesk();
            calls.forEach(made -> Script.answer(desk, made));
            left = Script.CALLS - calls.size();
        }
        left--;
        String answer = Script.answer(desk, call);
        found.add(call + " = " + answer);
        return Long.parseLong(answer);
    }
}
