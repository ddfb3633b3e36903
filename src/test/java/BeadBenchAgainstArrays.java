import java.lang.reflect.Array;
import java.util.Random;

/**
 * Runs of up to 512 calls on BeadBench and, beside it, on a bench made of Java's own arrays, whose System.arraycopy
 * does what the document calls a MOVE. The seeds are fixed, so that every run is the same each time.
 */
public final class BeadBenchAgainstArrays extends Checks {
    private static final int RUNS = 2000, CALLS_OF_A_TURN = 5;

    private static class Bead {
        int number;
        int polish;
    }

    private static class Stone extends Bead { }

    private static class Pearl extends Bead { }

    private static final class BlackPearl extends Pearl { }

    private static final Class<?>[] KINDS = {null, null, boolean.class, byte.class, char.class, short.class, int.class,
        long.class, float.class, double.class, Bead.class, Stone.class, Pearl.class, int[].class};

    /** A tray has null, an Integer (a ticket) or an array. */
    private static final class Model {
        final Object[] trays = new Object[12];
        final int[] told = new int[8];
        Object changed;
        Object old;

        boolean bad(int t) {
            return t < 0 || t > 11;
        }

        int kind(Object o) {
            if (o == null) {
                return 0;
            }
            for (int k = 2; k < KINDS.length; k++) {
                if (o.getClass().getComponentType() == KINDS[k]) {
                    return k;
                }
            }
            return 1;
        }

        int size(Object o) {
            return kind(o) > 1 ? Array.getLength(o) : 0;
        }

        int lay(int t, int kind, int n) {
            if (bad(t) || kind < 2 || kind > 13 || n < 0 || n > 64) {
                return BAD;
            }
            trays[t] = Array.newInstance(KINDS[kind], n);
            return n;
        }

        int ticket(int t, int what, int number) {
            if (bad(t) || what < 0 || what > 1) {
                return 0;
            }
            trays[t] = what == 0 ? null : Integer.valueOf(number);
            return 1;
        }

        int share(int from, int t) {
            if (bad(from) || bad(t)) {
                return BAD;
            }
            trays[t] = trays[from];
            return kind(trays[t]);
        }

        Bead piece(int v) {
            Bead[] all = {null, new Bead(), new Stone(), new Pearl(), new BlackPearl()};
            Bead made = all[((v % 5) + 5) % 5];
            if (made != null) {
                made.number = ++told[7];
            }
            return made;
        }

        int noRow(Object o) {
            return o == null ? MISSING : o instanceof Integer ? NO_ROW : 0;
        }

        Object value(int kind, int v) {
            switch (kind) {
                case 2: return v != 0;
                case 3: return (byte) v;
                case 4: return (char) v;
                case 5: return (short) v;
                case 6: return v;
                case 7: return (long) v;
                case 8: return (float) v;
                case 9: return (double) v;
                case 13: return !bad(v) && trays[v] instanceof int[] ? trays[v] : null;
                default: return piece(v);
            }
        }

        int put(int t, int i, int v) {
            if (bad(t)) {
                return BAD;
            }
            Object row = trays[t];
            if (noRow(row) != 0) {
                return noRow(row);
            }
            Object value = value(kind(row), v);
            try {
                Array.set(row, i, value);
                return 1;
            } catch (ArrayIndexOutOfBoundsException e) {
                return PLACES;
            } catch (IllegalArgumentException e) {
                return i < 0 || i >= size(row) ? PLACES : UNLIKE;
            }
        }

        int count(int answer) {
            told[answer >= 0 ? 1 : 1 - answer]++;
            return answer;
        }

        Object copy(Object row) {
            Object copy = Array.newInstance(row.getClass().getComponentType(), size(row));
            System.arraycopy(row, 0, copy, 0, size(row));
            return copy;
        }

        void keep(Object o) {
            changed = kind(o) > 1 ? o : null;
            old = changed == null ? null : copy(changed);
        }

        int move(int from, int p, int to, int q, int n) {
            if (bad(from) || bad(to)) {
                return BAD;
            }
            keep(trays[to]);
            told[0] = 0;
            Object a = trays[from];
            Object b = trays[to];
            if (a == null || b == null) {
                return count(MISSING);
            }
            if (a instanceof Integer || b instanceof Integer) {
                return count(NO_ROW);
            }
            int unfit = firstUnfit(a, p, b, n);
            try {
                System.arraycopy(a, p, b, q, n);
            } catch (IndexOutOfBoundsException e) {
                return count(PLACES);
            } catch (ArrayStoreException e) {
                if (kind(a) != kind(b) && (kind(a) < 10 || kind(b) < 10)) {
                    return count(UNLIKE);
                }
                told[0] = unfit;
                return count(STOPPED);
            }
            told[0] = n;
            return count(n);
        }

        /** How many places from p on come ahead of the first one that b doesn't take. */
        int firstUnfit(Object a, int p, Object b, int n) {
            int k = 0;
            while (k < n && p >= 0 && p < size(a) - k && kind(a) >= 10) {
                Object o = Array.get(a, p + k);
                if (o != null && !b.getClass().getComponentType().isInstance(o)) {
                    break;
                }
                k++;
            }
            return k;
        }

        int open(int t, int place, int n) {
            return bad(t) ? BAD : move(t, place, t, place + n, size(trays[t]) - place - n);
        }

        int close(int t, int place, int n) {
            return bad(t) ? BAD : move(t, place + n, t, place, size(trays[t]) - place - n);
        }

        int turn(int t, int k) {
            if (bad(t)) {
                return BAD;
            }
            keep(trays[t]);
            if (noRow(trays[t]) != 0) {
                return count(noRow(trays[t]));
            }
            int m = size(trays[t]);
            for (int i = 0; i < m; i++) {
                long j = ((i + (long) k) % m + m) % m;
                System.arraycopy(old, (int) j, trays[t], i, 1);
            }
            return count(m);
        }

        int spread(int t, int n) {
            if (bad(t)) {
                return BAD;
            }
            keep(trays[t]);
            if (noRow(trays[t]) != 0) {
                return count(noRow(trays[t]));
            }
            int m = size(trays[t]);
            if (n < 1 || n > m) {
                return count(PLACES);
            }
            for (int done = n; done < m; done += n) {
                System.arraycopy(old, 0, trays[t], done, Math.min(n, m - done));
            }
            return count(m);
        }

        int undo() {
            if (changed == null) {
                return MISSING;
            }
            int m = size(changed);
            System.arraycopy(old, 0, changed, 0, m);
            changed = null;
            return m;
        }

        int match(int from, int p, int to, int q, int n) {
            if (bad(from) || bad(to)) {
                return BAD;
            }
            Object a = trays[from];
            Object b = trays[to];
            if (a == null || b == null) {
                return MISSING;
            }
            if (a instanceof Integer || b instanceof Integer) {
                return NO_ROW;
            }
            if (kind(a) != kind(b) && (kind(a) < 10 || kind(b) < 10)) {
                return UNLIKE;
            }
            if (p < 0 || q < 0 || n < 0 || p > size(a) || q > size(b)) {
                return PLACES;
            }
            int k = 0;
            while (k < n && p + k < size(a) && q + k < size(b)) {
                Object x = Array.get(a, p + k);
                Object y = Array.get(b, q + k);
                if (kind(a) < 10 ? !x.equals(y) : x != y) {
                    break;
                }
                k++;
            }
            return k;
        }

        int polish(int t, int i, int more) {
            if (bad(t)) {
                return BAD;
            }
            if (noRow(trays[t]) != 0) {
                return noRow(trays[t]);
            }
            if (!(trays[t] instanceof Bead[] beads)) {
                return UNLIKE;
            }
            if (i < 0 || i >= beads.length) {
                return PLACES;
            }
            if (beads[i] == null) {
                return MISSING;
            }
            beads[i].polish += more;
            return beads[i].number;
        }

        int tray(int t, int what) {
            if (bad(t) || what < 0 || what > 1) {
                return BAD;
            }
            return what == 0 ? kind(trays[t]) : trays[t] instanceof Integer n ? n : size(trays[t]);
        }

        int what(int t, int i) {
            if (bad(t)) {
                return BAD;
            }
            if (noRow(trays[t]) != 0) {
                return noRow(trays[t]);
            }
            if (i < 0 || i >= size(trays[t])) {
                return PLACES;
            }
            Object o = Array.get(trays[t], i);
            if (o == null) {
                return 0;
            }
            return kind(trays[t]) < 10 ? 1 : o instanceof int[] ? 6 : o instanceof BlackPearl ? 5
                : o instanceof Pearl ? 4 : o instanceof Stone ? 3 : 2;
        }

        long at(int t, int i) {
            if (what(t, i) <= 0) {
                return 0;
            }
            Object o = Array.get(trays[t], i);
            if (o instanceof Boolean yes) {
                return yes ? 1 : 0;
            }
            if (o instanceof Character letter) {
                return letter;
            }
            return o instanceof Number n ? n.longValue() : o instanceof Bead bead ? bead.number : size(o);
        }

        int polished(int t, int i) {
            Object o = what(t, i) <= 0 ? null : Array.get(trays[t], i);
            int sum = 0;
            if (o instanceof int[] weights) {
                for (int w : weights) {
                    sum += w;
                }
            }
            return o instanceof Bead bead ? bead.polish : sum;
        }

        int told(int what) {
            return what < 0 || what > 7 ? BAD : told[what];
        }
    }

    /** The inputs of one run: mostly such as are taken, some at the edges, a few wild ones. */
    private static final class Inputs {
        final Random random;
        final int trays;
        final int longest;
        final int[] kinds;

        Inputs(long seed) {
            // Seeds that are near one another would begin alike.
            random = new Random(seed * 0x9E3779B97F4A7C15L);
            trays = 2 + random.nextInt(11);
            longest = random.nextInt(4) == 0 ? 64 : 1 + random.nextInt(8);
            int[][] choices = {{6, 7}, {10, 11, 12}, {10, 11}, {10, 12}, {6, 13}, {10, 13, 6}, {2, 3, 4, 5, 8, 9},
                {2, 3, 4, 5, 6, 7, 8, 9, 10, 11, 12, 13}};
            kinds = choices[random.nextInt(choices.length)];
        }

        int wild() {
            int[] some = {Integer.MIN_VALUE, Integer.MAX_VALUE, -1, 0, 1, 63, 64, 65, 127, 128, -129, 32768, 65536,
                16777217, 16777219, 2147483583, 2147483584, random.nextInt()};
            return some[random.nextInt(some.length)];
        }

        int tray() {
            return random.nextInt(60) == 0 ? (random.nextBoolean() ? 12 : wild()) : random.nextInt(trays) % 12;
        }

        int place() {
            return random.nextInt(40) == 0 ? wild() : random.nextInt(longest + 2) - (random.nextInt(8) == 0 ? 1 : 0);
        }

        int few() {
            return random.nextInt(3) == 0 ? random.nextInt(3) : place();
        }

        int kind() {
            return random.nextInt(30) == 0 ? random.nextInt(18) - 2 : kinds[random.nextInt(kinds.length)];
        }

        int length() {
            return random.nextInt(40) == 0 ? wild() : random.nextInt(Math.min(64, longest) + 1);
        }

        int value() {
            return random.nextInt(3) == 0 ? wild() : random.nextInt(14) - 1;
        }
    }

    /** One call on both; true when they answered otherwise. */
    private static boolean callDiffers(Bench x, Model m, Inputs in) {
        int t = in.tray();
        int u = in.tray();
        int p = in.place();
        int q = in.place();
        int n = in.few();
        int v = in.value();
        switch (in.random.nextInt(24)) {
            case 0: case 1: return layDiffers(x, m, in, t);
            case 2: case 3: case 4: case 5: return differ(x.put(t, p, v), m.put(t, p, v));
            case 6: case 7: {
                int i = m.bad(t) ? p : in.random.nextInt(m.size(m.trays[t]) + 1);
                return differ(x.put(t, i, v), m.put(t, i, v));
            }
            case 8: return differ(x.move(t, p, u, q, n), m.move(t, p, u, q, n));
            case 9: case 10: case 11: return m.bad(t) || m.bad(u) ? false : fitMoveDiffers(x, m, in, t, u);
            case 12: case 13: return differ(x.open(t, p, n), m.open(t, p, n));
            case 14: case 15: return differ(x.close(t, p, n), m.close(t, p, n));
            case 16: return differ(x.turn(t, v), m.turn(t, v));
            case 17: return differ(x.spread(t, n), m.spread(t, n));
            case 18: case 19: return differ(x.undo(), m.undo());
            case 20: return differ(x.match(t, p, u, q, v), m.match(t, p, u, q, v));
            case 21: return differ(x.polish(t, p, v), m.polish(t, p, v));
            case 22: return differ(x.tray(t, n), m.tray(t, n));
            default: return differ(x.told(v), m.told(v));
        }
    }

    /** Whatever lays, shares or takes away rows is rare, so that rows have time to fill. */
    private static boolean layDiffers(Bench x, Model m, Inputs in, int t) {
        int kind = in.kind();
        int length = in.length();
        int u = in.tray();
        int v = in.value();
        switch (in.random.nextInt(8)) {
            case 0: case 1: return differ(x.lay(t, kind, length), m.lay(t, kind, length));
            case 2: case 3: return differ(x.share(t, u), m.share(t, u));
            case 4: return differ(x.ticket(t, 1, v) ? 1 : 0, m.ticket(t, 1, v));
            case 5: return in.random.nextInt(3) == 0 && differ(x.ticket(t, v, u) ? 1 : 0, m.ticket(t, v, u));
            default: return false;
        }
    }

    private static boolean fitMoveDiffers(Bench x, Model m, Inputs in, int t, int u) {
        int p = in.random.nextInt(m.size(m.trays[t]) / 2 + 1);
        int q = in.random.nextInt(m.size(m.trays[u]) / 2 + 1);
        int most = Math.min(m.size(m.trays[t]) - p, m.size(m.trays[u]) - q);
        int n = in.random.nextBoolean() ? most : in.random.nextInt(most + 1);
        return differ(x.move(t, p, u, q, n), m.move(t, p, u, q, n));
    }

    private static boolean differ(long got, long want) {
        if (got != want) {
            System.out.println(Bench.story() + " answered " + got + ", due is " + want);
        }
        return got != want;
    }

    /** One place, or a tray without one, and one count; a look at all would use up the calls of the object. */
    private static boolean looksOther(Bench x, Model m, Inputs in) {
        int t = in.random.nextInt(in.trays) % 12;
        int i = in.random.nextInt(m.size(m.trays[t]) + 1);
        int w = in.random.nextInt(8);
        return differ(x.what(t, i), m.what(t, i)) || differ(x.at(t, i), m.at(t, i))
            || differ(x.polished(t, i), m.polished(t, i)) || differ(x.told(w), m.told(w));
    }

    private static boolean runIsWrong(int run, int[] seen) {
        Bench x = new Bench();
        Model m = new Model();
        Inputs in = new Inputs(run);
        for (int t = in.random.nextInt(3); t < 12; t++) {
            int kind = in.kind();
            int length = in.length();
            x.lay(t, kind, length);
            m.lay(t, kind, length);
        }
        while (x.callsLeft() >= CALLS_OF_A_TURN) {
            if (callDiffers(x, m, in) || (in.random.nextInt(3) == 0 && looksOther(x, m, in))) {
                System.out.println("that was in run " + run);
                return true;
            }
        }
        for (int w = 0; w < 8; w++) {
            seen[w] += m.told(w) > 0 ? 1 : 0;
        }
        return false;
    }

    public static void main(String[] args) {
        int wrong = 0;
        int[] seen = new int[8];
        for (int run = 1; run <= RUNS; run++) {
            wrong += runIsWrong(run, seen) ? 1 : 0;
        }
        for (int w = 1; w < 8; w++) {
            if (wrong == 0 && seen[w] < RUNS / 10) {
                wrong++;
                System.out.println("told " + w + " was above 0 in " + seen[w] + " runs only: the inputs are too tame");
            }
        }
        System.out.println(wrong == 0 ? "all runs are as due" : wrong + " runs are not as due");
        if (wrong != 0) {
            System.exit(1);
        }
    }
}
