/** Ints that go round, sums that must not, and calls that take any int. */
public final class BeadBenchInts extends Checks {
    private static final int[] ANY = {
        MIN, MIN + 1, MIN + 2, -65537, -65536, -32769, -32768, -257, -256, -129, -128, -65, -64, -6, -5, -4, -3, -2,
        -1, 0, 1, 2, 3, 4, 5, 6, 11, 12, 63, 64, 65, 127, 128, 255, 256, 32767, 32768, 65535, 65536, 16777215,
        16777216, 16777217, 16777219, MAX - 64, MAX - 63, MAX - 1, MAX};

    /** Both rows are of m places; a sum of p and n, or q and n, that went round would be small enough. */
    private static void tooFar(int m, int p, int q, int n) {
        Bench x = new Bench();
        x.lay(0, WEIGHTS, m);
        x.lay(1, WEIGHTS, m);
        due(x.move(0, p, 1, q, n), PLACES);
        due(x.told(0), 0);
        due(x.move(0, p, 0, q, n), PLACES);
        due(x.told(5), 2);
        for (int i = 0; i < m; i++) {
            due(x.at(1, i), 0);
        }
    }

    private static void sumsOfMove() {
        for (int m : new int[] {1, 2, 64}) {
            sentence("MOVE: p and n together, as whole numbers, without going round");
            tooFar(m, MAX, 0, 1);
            tooFar(m, MAX, 0, m);
            tooFar(m, MAX - m + 1, 0, m);
            tooFar(m, MAX, m, 0);
            sentence("MOVE: q and n together, as whole numbers, without going round");
            tooFar(m, 0, MAX, 1);
            tooFar(m, 0, MAX, m);
            tooFar(m, 0, MAX - m + 1, m);
            tooFar(m, m, MAX, 0);
            sentence("MOVE: both sums, as whole numbers, without going round");
            tooFar(m, 1, 1, MAX);
            tooFar(m, MAX, MAX, 1);
            tooFar(m, MAX, MAX, MAX);
            tooFar(m, MIN, MIN, MIN);
            tooFar(m, MIN, 0, MIN);
            tooFar(m, 0, MIN, MIN);
            tooFar(m, -1, -1, MIN);
        }
    }

    private static void round(String words, Call call, int m, int p, int q, int n) {
        sentence(words);
        Bench x = new Bench();
        x.lay(0, WEIGHTS, m);
        boolean good = fits(p, n, m) && fits(q, n, m);
        due(call.on(x), good ? n : PLACES);
        due(x.told(0), good ? n : 0);
    }

    /** With -MAX and MIN the number of places, or where they go, comes out right only by going round. */
    private static void openAndClose() {
        for (int m : new int[] {0, 1, 3, 64}) {
            for (int place : ANY) {
                for (int n : ANY) {
                    int far = place + n;
                    int many = m - place - n;
                    round("open: ints that go round", x -> x.open(0, place, n), m, place, far, many);
                    round("close: ints that go round", x -> x.close(0, place, n), m, far, place, many);
                }
            }
            sentence("open, close: from or to a place that a sum that went round would allow");
            int[][] wild = {{MAX, -MAX}, {MAX, 1}, {1, MAX}, {MAX, MAX}, {MIN, MIN}, {MIN, MAX}, {-1, 1}, {MAX, MIN},
                {MAX - m, m + 1}, {MIN, 0}, {0, MIN}, {MAX, m - MAX}};
            for (int[] w : wild) {
                Bench x = new Bench();
                x.lay(0, WEIGHTS, m);
                due(x.open(0, w[0], w[1]), PLACES);
                due(x.close(0, w[0], w[1]), PLACES);
                due(x.told(5), 2);
            }
        }
    }

    private static void polish() {
        sentence("polish: so much more POLISH (an int that goes round)");
        int[][] sums = {{MAX, 1, MIN}, {MIN, -1, MAX}, {MIN, MIN, 0}, {MAX, MAX, -2}, {MAX, MIN, -1}, {0, 0, 0},
            {5, -7, -2}, {MIN, MAX, -1}};
        for (int[] s : sums) {
            Bench x = new Bench();
            x.fill(0, BEADS, STONE, PLAIN);
            due(x.polish(0, 0, s[0]), 1);
            due(x.polished(0, 0), s[0]);
            due(x.polish(0, 0, s[1]), 1);
            due(x.polished(0, 0), s[2]);
            due(x.polished(0, 1), 0);
        }
    }

    private static void sumOfWeights() {
        sentence("polished: of a row (BUNDLES) the sum of its WEIGHTS (going round)");
        int[][] rows = {{MAX, 1}, {MIN, -1}, {MIN, MIN}, {MAX, MAX, 2}, {MIN, MAX}, {-1, -2, -3}, {MIN}, {MAX}, {}};
        int[] sums = {MIN, MAX, 0, 0, -1, -6, MIN, MAX, 0};
        for (int r = 0; r < rows.length; r++) {
            Bench x = weights(rows[r]);
            x.fill(1, BUNDLES, 0);
            due(x.polished(1, 0), sums[r]);
        }
        Bench x = new Bench();
        x.lay(0, WEIGHTS, 64);
        x.fill(1, BUNDLES, 0);
        x.put(0, 0, MAX);
        x.spread(0, 1);
        due(x.polished(1, 0), -64);
    }

    private static void turn() {
        sentence("turn: place i gets what was at i + k, round its m places (k any int)");
        for (int m : new int[] {1, 2, 3, 5, 7, 64}) {
            for (int k : ANY) {
                Bench x = new Bench();
                x.lay(0, WEIGHTS, m);
                for (int i = 0; i < m; i++) {
                    x.put(0, i, 100 + i);
                }
                due(x.turn(0, k), m);
                for (int i = 0; i < m; i++) {
                    due(x.at(0, i), 100 + Math.floorMod((long) i + k, (long) m));
                }
            }
        }
    }

    /** What a row of NUMBERS has of v, reckoned without casts. */
    private static long number(int kind, int v) {
        long bits = v & 0xFFFFFFFFL;
        switch (kind) {
            case NOTCHES:
                return v == 0 ? 0 : 1;
            case TINTS:
                return bits % 256 < 128 ? bits % 256 : bits % 256 - 256;
            case LETTERS:
                return bits % 65536;
            case STEPS:
                return bits % 65536 < 32768 ? bits % 65536 : bits % 65536 - 65536;
            case SIZES:
                return nearestSize(v);
            default:
                return v;
        }
    }

    /** A float has 24 bits; between two that are equally near, the one whose last bit is 0. */
    private static long nearestSize(long v) {
        long size = Math.abs(v);
        long step = 1;
        while (size / step >= 1L << 24) {
            step *= 2;
        }
        long below = size / step;
        long rest = size % step;
        boolean up = 2 * rest > step || (2 * rest == step && below % 2 == 1);
        long nearest = (up ? below + 1 : below) * step;
        return v < 0 ? -nearest : nearest;
    }

    private static void putNumbers() {
        for (int kind = NOTCHES; kind <= LENGTHS; kind++) {
            sentence("put: any int into a row of KIND " + kind);
            for (int v : ANY) {
                Bench x = new Bench();
                x.lay(0, kind, 3);
                due(x.put(0, 1, v), 1);
                due(x.what(0, 1), 1);
                due(x.at(0, 0), 0);
                due(x.at(0, 1), number(kind, v));
                due(x.at(0, 2), 0);
                due(x.told(7), 0);
                x.turn(0, 1);
                due(x.at(0, 0), number(kind, v));
            }
        }
    }

    private static void putPieces() {
        for (int kind = BEADS; kind <= PEARLS; kind++) {
            sentence("put: v modulo 5 (0 .. 4), any int, into a row of KIND " + kind);
            for (int v : ANY) {
                int piece = (int) ((v + 5L * (1L << 31)) % 5);
                boolean stone = piece == STONE && kind == STONES;
                boolean pearl = (piece == PEARL || piece == BLACK_PEARL) && kind == PEARLS;
                boolean fits = piece == NOTHING || kind == BEADS || stone || pearl;
                Bench x = new Bench();
                x.lay(0, kind, 1);
                due(x.put(0, 0, v), fits ? 1 : UNLIKE);
                due(x.what(0, 0), fits && piece != NOTHING ? piece + 1 : 0);
                due(x.at(0, 0), fits && piece != NOTHING ? 1 : 0);
                due(x.told(7), piece != NOTHING ? 1 : 0);
            }
        }
    }

    private static void putRows() {
        sentence("put: of BUNDLES the row of WEIGHTS that tray v has, any int");
        for (int v : ANY) {
            Bench x = new Bench();
            for (int t = 1; t < 12; t++) {
                x.lay(t, WEIGHTS, t);
            }
            x.lay(0, BUNDLES, 1);
            x.put(0, 0, 11);
            due(x.put(0, 0, v), 1);
            boolean row = v >= 1 && v <= 11;
            due(x.what(0, 0), row ? 6 : 0);
            due(x.at(0, 0), row ? v : 0);
            due(x.told(7), 0);
        }
    }

    private static void ticket() {
        sentence("ticket: a TICKET with a number, any int");
        for (int v : ANY) {
            Bench x = new Bench();
            due(x.ticket(3, 1, v), true);
            due(x.tray(3, 1), v);
            due(x.share(3, 4), 1);
            due(x.tray(4, 1), v);
            due(x.ticket(3, 0, v), true);
            due(x.tray(3, 1), 0);
            due(x.tray(4, 1), v);
        }
    }

    private static void match() {
        sentence("match: at most n, any n, as far as both go");
        for (int n : ANY) {
            Bench x = weights(7, 8, 9, 8, 9);
            due(x.match(0, 1, 0, 3, n), n < 0 ? PLACES : Math.min(n, 2));
            due(x.match(0, 3, 0, 1, n), n < 0 ? PLACES : Math.min(n, 2));
        }
        sentence("match: PLACES of any p and q");
        for (int place : ANY) {
            Bench x = weights(7, 8, 9);
            boolean good = place >= 0 && place <= 3;
            due(x.match(0, place, 0, 0, MAX), !good ? PLACES : place == 0 ? 3 : 0);
            due(x.match(0, 0, 0, place, MAX), !good ? PLACES : place == 0 ? 3 : 0);
        }
    }

    public static void main(String[] args) {
        sumsOfMove();
        openAndClose();
        polish();
        sumOfWeights();
        turn();
        putNumbers();
        putPieces();
        putRows();
        ticket();
        match();
        end();
    }
}
