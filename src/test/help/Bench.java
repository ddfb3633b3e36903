import java.util.ArrayList;
import java.util.LinkedHashMap;
import java.util.List;
import java.util.Map;

/** A BeadBench that writes down its calls, and allows no more than the document does: a 513th may answer anything. */
final class Bench {
    static final int MOST_CALLS = 512;
    private static final int SHOWN = 8;

    private static Bench latest = null;

    private final BeadBench bench = new BeadBench();
    private final List<String> calls = new ArrayList<>();

    /** The latest calls of the bench that was called last, for the message about a wrong answer. */
    static String story() {
        if (latest == null) {
            return "no call";
        }
        int from = Math.max(0, latest.calls.size() - SHOWN);
        return (from > 0 ? ".. " : "") + String.join(" ", latest.calls.subList(from, latest.calls.size()));
    }

    int callsLeft() {
        return MOST_CALLS - calls.size();
    }

    private void write(String name, int... arguments) {
        if (callsLeft() == 0) {
            throw new IllegalStateException("the test makes more than " + MOST_CALLS + " calls on one object");
        }
        StringBuilder call = new StringBuilder(name).append('(');
        for (int i = 0; i < arguments.length; i++) {
            call.append(i == 0 ? "" : ", ").append(arguments[i]);
        }
        calls.add(call.append(')').toString());
        latest = this;
    }

    int lay(int tray, int kind, int n) {
        write("lay", tray, kind, n);
        return bench.lay(tray, kind, n);
    }

    boolean ticket(int tray, int what, int number) {
        write("ticket", tray, what, number);
        return bench.ticket(tray, what, number);
    }

    int share(int from, int tray) {
        write("share", from, tray);
        return bench.share(from, tray);
    }

    int put(int tray, int i, int v) {
        write("put", tray, i, v);
        return bench.put(tray, i, v);
    }

    int move(int from, int p, int to, int q, int n) {
        write("move", from, p, to, q, n);
        return bench.move(from, p, to, q, n);
    }

    int open(int tray, int place, int n) {
        write("open", tray, place, n);
        return bench.open(tray, place, n);
    }

    int close(int tray, int place, int n) {
        write("close", tray, place, n);
        return bench.close(tray, place, n);
    }

    int turn(int tray, int k) {
        write("turn", tray, k);
        return bench.turn(tray, k);
    }

    int spread(int tray, int n) {
        write("spread", tray, n);
        return bench.spread(tray, n);
    }

    int undo() {
        write("undo");
        return bench.undo();
    }

    int match(int from, int p, int to, int q, int n) {
        write("match", from, p, to, q, n);
        return bench.match(from, p, to, q, n);
    }

    int polish(int tray, int i, int more) {
        write("polish", tray, i, more);
        return bench.polish(tray, i, more);
    }

    int tray(int tray, int what) {
        write("tray", tray, what);
        return bench.tray(tray, what);
    }

    int what(int tray, int i) {
        write("what", tray, i);
        return bench.what(tray, i);
    }

    long at(int tray, int i) {
        write("at", tray, i);
        return bench.at(tray, i);
    }

    int polished(int tray, int i) {
        write("polished", tray, i);
        return bench.polished(tray, i);
    }

    int told(int what) {
        write("told", what);
        return bench.told(what);
    }

    /** Lays a row with one place for each value, and puts the values there. */
    void fill(int tray, int kind, int... values) {
        lay(tray, kind, values.length);
        for (int i = 0; i < values.length; i++) {
            put(tray, i, values[i]);
        }
    }

    /** All that can be seen of the bench, by the call that answers it. */
    Map<String, Long> all() {
        Map<String, Long> seen = new LinkedHashMap<>();
        for (int w = 0; w < 8; w++) {
            seen.put("told(" + w + ")", (long) told(w));
        }
        for (int t = 0; t < 12; t++) {
            int kind = tray(t, 0);
            int places = tray(t, 1);
            seen.put("tray(" + t + ", 0)", (long) kind);
            seen.put("tray(" + t + ", 1)", (long) places);
            for (int i = 0; kind > 1 && i < places; i++) {
                String place = "(" + t + ", " + i + ")";
                seen.put("what" + place, (long) what(t, i));
                seen.put("at" + place, at(t, i));
                seen.put("polished" + place, (long) polished(t, i));
            }
        }
        return seen;
    }
}
