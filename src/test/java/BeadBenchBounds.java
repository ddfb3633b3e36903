import java.util.function.IntUnaryOperator;

/** Trays, KINDS, places and numbers of places at their bounds and beyond them by one, and rows of 0 and 64 places. */
public final class BeadBenchBounds extends Checks {
    private static final int[] TRAYS = {0, 11};
    private static final int[] NO_TRAYS = {-1, 12, MIN, MAX};

    private interface OnTray {
        long on(Bench x, int tray);
    }

    /** The first and the last tray have the same two BEADS, so that a call answers alike on both. */
    private static Bench firstAndLast() {
        Bench x = new Bench();
        x.fill(0, BEADS, STONE, PEARL);
        x.share(0, 11);
        x.polish(0, 0, 6);
        return x;
    }

    private static void newObject() {
        sentence("A new object: twelve EMPTY trays");
        for (int t = 0; t < 12; t++) {
            Bench x = new Bench();
            due(x.tray(t, 0), 0);
            due(x.tray(t, 1), 0);
            due(x.what(t, 0), MISSING);
            due(x.at(t, 0), 0);
            due(x.polished(t, 0), 0);
            due(x.put(t, 0, PLAIN), MISSING);
            due(x.polish(t, 0, 1), MISSING);
            due(x.match(t, 0, t, 0, 0), MISSING);
            due(x.turn(t, 0), MISSING);
            due(x.share(t, 11 - t), 0);
        }
        sentence("A new object: nothing is told, and nothing can be taken back");
        Bench x = new Bench();
        for (int w = 0; w < 8; w++) {
            due(x.told(w), 0);
        }
        due(x.undo(), MISSING);
    }

    private static void trays(String words, OnTray call, long good, long bad) {
        sentence(words);
        for (int t : TRAYS) {
            due(call.on(firstAndLast(), t), good);
        }
        for (int t : NO_TRAYS) {
            due(call.on(firstAndLast(), t), bad);
        }
    }

    private static void traysThatAreChanged() {
        trays("lay: no such tray", (x, t) -> x.lay(t, WEIGHTS, 5), 5, BAD);
        trays("ticket: no such tray, what 1", (x, t) -> x.ticket(t, 1, 3) ? 1 : 0, 1, 0);
        trays("ticket: no such tray, what 0", (x, t) -> x.ticket(t, 0, 3) ? 1 : 0, 1, 0);
        trays("share: no such tray to share from", (x, t) -> x.share(t, 5), BEADS, BAD);
        trays("share: no such tray to share with", (x, t) -> x.share(0, t), BEADS, BAD);
        trays("put: no such tray", (x, t) -> x.put(t, 1, PLAIN), 1, BAD);
        trays("move: no such tray to move from", (x, t) -> x.move(t, 0, 0, 0, 2), 2, BAD);
        trays("move: no such tray to move to", (x, t) -> x.move(0, 0, t, 0, 2), 2, BAD);
        trays("open: no such tray", (x, t) -> x.open(t, 0, 1), 1, BAD);
        trays("close: no such tray", (x, t) -> x.close(t, 0, 1), 1, BAD);
        trays("turn: no such tray", (x, t) -> x.turn(t, 1), 2, BAD);
        trays("spread: no such tray", (x, t) -> x.spread(t, 1), 2, BAD);
    }

    private static void traysThatAreAsked() {
        trays("match: no such first tray", (x, t) -> x.match(t, 0, 0, 0, 2), 2, BAD);
        trays("match: no such second tray", (x, t) -> x.match(0, 0, t, 0, 2), 2, BAD);
        trays("polish: no such tray", (x, t) -> x.polish(t, 1, 1), 2, BAD);
        trays("tray: no such tray, its KIND", (x, t) -> x.tray(t, 0), BEADS, BAD);
        trays("tray: no such tray, its places", (x, t) -> x.tray(t, 1), 2, BAD);
        trays("what: no such tray", (x, t) -> x.what(t, 1), 4, BAD);
        trays("at: 0 when what() is BAD", (x, t) -> x.at(t, 1), 2, 0);
        trays("polished: 0 when there is no such tray", (x, t) -> x.polished(t, 0), 6, 0);
    }

    private static void trayOfBundle() {
        sentence("put: NOTHING when there is no tray v");
        for (int t : TRAYS) {
            Bench x = new Bench();
            x.lay(5, BUNDLES, 1);
            x.fill(t, WEIGHTS, 8, 9);
            due(x.put(5, 0, t), 1);
            due(x.what(5, 0), 6);
            due(x.polished(5, 0), 17);
        }
        for (int t : NO_TRAYS) {
            Bench x = weights(8, 9);
            x.fill(5, BUNDLES, 0);
            due(x.put(5, 0, t), 1);
            due(x.what(5, 0), 0);
        }
        sentence("put: NOTHING when tray v has no row of WEIGHTS");
        for (int kind = 0; kind <= 13; kind++) {
            Bench x = weights(8, 9);
            x.fill(5, BUNDLES, 0);
            x.ticket(7, kind == 1 ? 1 : 0, 6);
            x.lay(7, kind, 2);
            due(x.put(5, 0, 7), 1);
            due(x.what(5, 0), kind == WEIGHTS ? 6 : 0);
        }
        sentence("put: NOTHING when tray v is that of the BUNDLES");
        Bench x = new Bench();
        x.lay(5, BUNDLES, 1);
        due(x.put(5, 0, 5), 1);
        due(x.what(5, 0), 0);
    }

    private static void kindsAndWhats() {
        sentence("lay: no such KIND (2 .. 13)");
        for (int kind = 2; kind <= 13; kind++) {
            Bench x = new Bench();
            due(x.lay(4, kind, 3), 3);
            due(x.tray(4, 0), kind);
        }
        for (int kind : new int[] {1, 14, 0, -1, MIN, MAX}) {
            due(new Bench().lay(4, kind, 3), BAD);
        }
        sentence("ticket: false for no such what");
        due(new Bench().ticket(4, 0, 3), true);
        due(new Bench().ticket(4, 1, 3), true);
        sentence("tray: no such what");
        due(weights(7).tray(0, 0), WEIGHTS);
        due(weights(7).tray(0, 1), 1);
        for (int what : new int[] {-1, 2, MIN, MAX}) {
            sentence("ticket: false for no such what");
            due(new Bench().ticket(4, what, 3), false);
            sentence("tray: no such what");
            due(weights(7).tray(0, what), BAD);
        }
        sentence("told: BAD for another what");
        for (int what = 0; what <= 7; what++) {
            due(new Bench().told(what), 0);
        }
        for (int what : new int[] {-1, 8, MIN, MAX}) {
            due(new Bench().told(what), BAD);
        }
    }

    private static void newRow() {
        sentence("lay: a new row: NUMBERS are 0 at first, and the old row is as it was");
        Bench x = weights(4, 5);
        x.share(0, 11);
        due(x.lay(0, WEIGHTS, 2), 2);
        row(x, 0, 0, 0);
        row(x, 11, 4, 5);
        sentence("lay: a new row: NOTHING at first, and the old row is as it was");
        Bench y = new Bench();
        y.fill(0, BEADS, STONE, PEARL);
        y.share(0, 11);
        due(y.lay(0, BEADS, 2), 2);
        due(y.what(0, 0), 0);
        due(y.what(0, 1), 0);
        row(y, 11, 1, 2);
        sentence("share: the same row, what is put into it is seen in all of its trays");
        due(y.share(11, 5), BEADS);
        y.put(5, 0, PLAIN);
        row(y, 11, 3, 2);
        sentence("share: EMPTY too");
        due(y.share(9, 11), 0);
        due(y.tray(11, 0), 0);
        row(y, 5, 3, 2);
        sentence("share: with itself");
        due(y.share(5, 5), BEADS);
        row(y, 5, 3, 2);
    }

    private static void numberOfPlaces() {
        sentence("lay: n is not 0 .. 64");
        for (int kind = 2; kind <= 13; kind++) {
            for (int n : new int[] {0, 1, 63, 64}) {
                Bench x = new Bench();
                due(x.lay(4, kind, n), n);
                due(x.tray(4, 1), n);
                due(x.what(4, n), PLACES);
            }
            for (int n : new int[] {-1, 65, MIN, MAX}) {
                due(new Bench().lay(4, kind, n), BAD);
            }
        }
    }

    /** Every KIND, and rows of 0, 1, 3 and 64 places: the first and the last place, and the ones beyond them. */
    private static void onePlace() {
        for (int kind = 2; kind <= 13; kind++) {
            boolean numbers = kind <= LENGTHS;
            int fits = kind == PEARLS ? PEARL : STONE;
            for (int m : new int[] {0, 1, 3, 64}) {
                Bench x = new Bench();
                x.fill(2, WEIGHTS, 5);
                x.lay(4, kind, m);
                for (int i : new int[] {-1, m, m + 1, MIN, MAX}) {
                    sentence("put: PLACES: there is no such place");
                    due(x.put(4, i, fits), PLACES);
                    sentence("what: PLACES");
                    due(x.what(4, i), PLACES);
                    sentence("at: 0 when what() is PLACES");
                    due(x.at(4, i), 0);
                    sentence("polished: 0 otherwise, where there is no such place");
                    due(x.polished(4, i), 0);
                    sentence("polish: UNLIKE, else PLACES");
                    due(x.polish(4, i, 1), numbers || kind == BUNDLES ? UNLIKE : PLACES);
                }
                for (int i : m == 0 ? new int[0] : new int[] {0, m - 1}) {
                    sentence("put, what, at, polish: the first and the last place");
                    due(x.put(4, i, fits), 1);
                    int made = x.told(7);
                    due(x.polished(4, i), kind == BUNDLES ? 5 : 0);
                    due(x.what(4, i), numbers ? 1 : kind == BUNDLES ? 6 : fits + 1);
                    due(x.at(4, i), numbers ? (kind == NOTCHES ? 1 : fits) : kind == BUNDLES ? 1 : made);
                    due(x.polish(4, i, 1), numbers || kind == BUNDLES ? UNLIKE : made);
                }
                sentence("polished: 0 of NOTHING and of a NUMBER");
                due(x.polished(4, 1), 0);
            }
        }
    }

    /** Every p, q and n from below 0 to beyond the ends, for rows of 0 to 3 places. */
    private static void placesOfMove() {
        sentence("MOVE: PLACES: p, q or n is below 0, or p and n together are more than a has, or q and n more than b");
        for (int ma = 0; ma <= 3; ma++) {
            for (int mb = 0; mb <= 3; mb++) {
                for (int p = -2; p <= 5; p++) {
                    Bench x = new Bench();
                    x.lay(0, WEIGHTS, ma);
                    x.lay(11, WEIGHTS, mb);
                    for (int q = -2; q <= 5; q++) {
                        for (int n = -2; n <= 5; n++) {
                            due(x.move(0, p, 11, q, n), fits(p, n, ma) && fits(q, n, mb) ? n : PLACES);
                        }
                    }
                }
            }
        }
    }

    /** The same by name, on rows of 64 places, where one place too many is behind the longest row there can be. */
    private static void placesOfLongMove() {
        int[][] good = {{0, 0, 64}, {0, 0, 0}, {64, 64, 0}, {64, 0, 0}, {0, 64, 0}, {63, 0, 1}, {0, 63, 1}, {1, 1, 63}};
        int[][] bad = {{-1, 0, 1}, {-1, 0, 0}, {0, -1, 1}, {0, -1, 0}, {0, 0, -1}, {64, 64, -1}, {0, 0, 65}, {1, 0, 64},
            {0, 1, 64}, {64, 0, 1}, {0, 64, 1}, {65, 0, 0}, {0, 65, 0}, {65, 65, -1}};
        sentence("MOVE: what is no more than 64 places");
        for (int[] g : good) {
            Bench x = new Bench();
            x.lay(0, TINTS, 64);
            x.lay(1, TINTS, 64);
            due(x.move(0, g[0], 1, g[1], g[2]), g[2]);
            due(x.told(0), g[2]);
        }
        sentence("MOVE: PLACES of 64 places");
        for (int[] b : bad) {
            Bench x = new Bench();
            x.lay(0, TINTS, 64);
            x.lay(1, TINTS, 64);
            due(x.move(0, b[0], 1, b[1], b[2]), PLACES);
            due(x.told(0), 0);
        }
    }

    /** What the row 1 2 3 .. has behind a MOVE within it. */
    private static long[] moved(int m, int p, int q, int n) {
        long[] row = new long[m];
        for (int i = 0; i < m; i++) {
            row[i] = i >= q && i < q + n ? p + i - q + 1 : i + 1;
        }
        return row;
    }

    private static int[] upTo(int m) {
        int[] values = new int[m];
        for (int i = 0; i < m; i++) {
            values[i] = i + 1;
        }
        return values;
    }

    private static void within(Call call, int m, int p, int q, int n) {
        boolean good = fits(p, n, m) && fits(q, n, m);
        Bench x = weights(upTo(m));
        due(call.on(x), good ? n : PLACES);
        row(x, 0, good ? moved(m, p, q, n) : moved(m, 0, 0, 0));
        due(x.told(0), good ? n : 0);
        due(x.told(good ? 1 : 5), 1);
    }

    private static void placesOfOpenAndClose() {
        for (int m = 0; m <= 4; m++) {
            for (int place = -2; place <= m + 2; place++) {
                for (int n = -m - 2; n <= m + 2; n++) {
                    int at = place;
                    int by = n;
                    sentence("open: a MOVE from place on to place + n on of m - place - n places");
                    within(x -> x.open(0, at, by), m, place, place + n, m - place - n);
                    sentence("close: from place + n on to place on");
                    within(x -> x.close(0, at, by), m, place + n, place, m - place - n);
                }
            }
        }
    }

    private static void placesOfSpread() {
        sentence("spread: PLACES: n is not 1 .. m");
        for (int m : new int[] {0, 1, 2, 5, 64}) {
            for (int n : new int[] {-1, 0, 1, 2, m - 1, m, m + 1, 65, MIN, MAX}) {
                boolean good = n >= 1 && n <= m;
                Bench x = weights(upTo(m));
                due(x.spread(0, n), good ? m : PLACES);
                for (int i = 0; i < m; i++) {
                    due(x.at(0, i), good ? i % n + 1 : i + 1);
                }
                due(x.told(good ? 1 : 5), 1);
            }
        }
    }

    /** All places are alike, so that the answer is how far n and both rows go. */
    private static void placesOfMatch() {
        sentence("match: PLACES: p, q or n below 0, or p, q above the row's number of places");
        for (int ma : new int[] {0, 1, 3, 64}) {
            for (int mb : new int[] {0, 1, 3, 64}) {
                Bench x = new Bench();
                x.lay(0, STEPS, ma);
                x.lay(11, STEPS, mb);
                for (int p : new int[] {-1, 0, ma, ma + 1}) {
                    for (int q : new int[] {-1, 0, mb, mb + 1}) {
                        for (int n : new int[] {-1, 0, 1, 64, 65}) {
                            boolean good = p >= 0 && q >= 0 && n >= 0 && p <= ma && q <= mb;
                            long alike = Math.min(n, Math.min(ma - p, mb - q));
                            due(x.match(0, p, 11, q, n), good ? alike : PLACES);
                        }
                    }
                }
            }
        }
    }

    private static void rowOfNoPlaces() {
        sentence("a ROW of 0 PLACES");
        for (int kind = 2; kind <= 13; kind++) {
            Bench x = new Bench();
            due(x.lay(3, kind, 0), 0);
            due(x.tray(3, 0), kind);
            due(x.tray(3, 1), 0);
            due(x.put(3, 0, 4), PLACES);
            due(x.told(7), kind >= BEADS && kind <= PEARLS ? 1 : 0);
            due(x.move(3, 0, 3, 0, 0), 0);
            due(x.move(3, 0, 3, 0, 1), PLACES);
            due(x.open(3, 0, 0), 0);
            due(x.open(3, 0, 1), PLACES);
            due(x.close(3, 0, 0), 0);
            due(x.close(3, 0, 1), PLACES);
            for (int k : new int[] {0, 1, -1, MIN, MAX}) {
                due(x.turn(3, k), 0);
            }
            due(x.undo(), 0);
            due(x.spread(3, 0), PLACES);
            due(x.spread(3, 1), PLACES);
            due(x.undo(), 0);
            due(x.undo(), MISSING);
            due(x.match(3, 0, 3, 0, 5), 0);
            due(x.match(3, 1, 3, 0, 5), PLACES);
            due(x.what(3, 0), PLACES);
            due(x.at(3, 0), 0);
            due(x.polished(3, 0), 0);
            due(x.share(3, 4), kind);
            due(x.told(1), 8);
            due(x.told(5), 5);
        }
        sentence("a ROW of 0 PLACES in BUNDLES");
        Bench x = weights();
        x.fill(1, BUNDLES, 0);
        due(x.what(1, 0), 6);
        due(x.at(1, 0), 0);
        due(x.polished(1, 0), 0);
    }

    private static void rowOf64(String words, Call call, long answer, IntUnaryOperator at) {
        sentence(words);
        Bench x = weights(upTo(64));
        due(call.on(x), answer);
        for (int i = 0; i < 64; i++) {
            due(x.at(0, i), at.applyAsInt(i));
        }
        due(x.undo(), 64);
        for (int i = 0; i < 64; i++) {
            due(x.at(0, i), i + 1);
        }
    }

    private static void rowsOf64Places() {
        rowOf64("move: within 64 PLACES, one on", x -> x.move(0, 0, 0, 1, 63), 63, i -> i == 0 ? 1 : i);
        rowOf64("move: within 64 PLACES, one back", x -> x.move(0, 1, 0, 0, 63), 63, i -> i == 63 ? 64 : i + 2);
        rowOf64("open: 64 PLACES, all but one", x -> x.open(0, 0, 63), 1, i -> i == 63 ? 1 : i + 1);
        rowOf64("open: 64 PLACES, all", x -> x.open(0, 0, 64), 0, i -> i + 1);
        rowOf64("close: 64 PLACES, all but one", x -> x.close(0, 0, 63), 1, i -> i == 0 ? 64 : i + 1);
        rowOf64("close: 64 PLACES, none", x -> x.close(0, 0, 0), 64, i -> i + 1);
        rowOf64("turn: 64 PLACES, by 63", x -> x.turn(0, 63), 64, i -> (i + 63) % 64 + 1);
        rowOf64("turn: 64 PLACES, by 64", x -> x.turn(0, 64), 64, i -> i + 1);
        rowOf64("spread: 64 PLACES, the first", x -> x.spread(0, 1), 64, i -> 1);
        rowOf64("spread: 64 PLACES, the first 63", x -> x.spread(0, 63), 64, i -> i == 63 ? 1 : i + 1);
        rowOf64("spread: 64 PLACES, all", x -> x.spread(0, 64), 64, i -> i + 1);
    }

    private static void rowOf64PiecesAndRows() {
        sentence("a ROW of 64 PLACES with a piece at each");
        Bench x = new Bench();
        x.lay(0, BEADS, 64);
        x.lay(11, BEADS, 64);
        for (int i = 0; i < 64; i++) {
            due(x.put(0, i, PLAIN), 1);
        }
        due(x.polish(0, 63, 5), 64);
        due(x.move(0, 0, 11, 0, 64), 64);
        due(x.match(0, 0, 11, 0, 64), 64);
        for (int i = 0; i < 64; i++) {
            due(x.at(11, i), i + 1);
        }
        due(x.polished(11, 63), 5);
        due(x.told(7), 64);
        sentence("a ROW of 64 PLACES in BUNDLES of 64 PLACES");
        Bench y = weights(upTo(64));
        y.lay(1, BUNDLES, 64);
        due(y.put(1, 63, 0), 1);
        due(y.at(1, 63), 64);
        due(y.polished(1, 63), 64 * 65 / 2);
        due(y.what(1, 62), 0);
    }

    /** The latest call that is promised anything is the 512th. */
    private static void calls() {
        sentence("An object is used for at most 512 calls");
        Bench x = new Bench();
        x.lay(0, BEADS, 1);
        while (x.callsLeft() > 2) {
            due(x.put(0, 0, BLACK_PEARL), 1);
        }
        due(x.told(7), 509);
        due(x.at(0, 0), 509);
        Bench y = new Bench();
        while (y.callsLeft() > 1) {
            due(y.lay(11, BUNDLES, 64), 64);
        }
        due(y.what(11, 63), 0);
        Bench z = weights(1, 2, 3);
        while (z.callsLeft() > 2) {
            due(z.turn(0, 1), 3);
        }
        due(z.told(1), 506);
        due(z.at(0, 0), 506 % 3 + 1);
    }

    public static void main(String[] args) {
        newObject();
        traysThatAreChanged();
        traysThatAreAsked();
        trayOfBundle();
        kindsAndWhats();
        newRow();
        numberOfPlaces();
        onePlace();
        placesOfMove();
        placesOfLongMove();
        placesOfOpenAndClose();
        placesOfSpread();
        placesOfMatch();
        rowOfNoPlaces();
        rowsOf64Places();
        rowOf64PiecesAndRows();
        calls();
        end();
    }
}
