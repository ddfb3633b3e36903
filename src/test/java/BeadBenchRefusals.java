import java.util.Map;

/**
 * Each refusal by each call that can answer it, in the order in which the document names them: what the call leaves as
 * it was, what told() says of it afterwards, and what undo() then does.
 */
public final class BeadBenchRefusals extends Checks {
    /** Trays of the scene, by what they have. */
    private static final int OF_WEIGHTS = 0, EMPTY = 1, A_TICKET = 2, OF_PRICES = 3, OF_BEADS = 4, OF_STONES = 5;
    private static final int OF_PEARLS = 6, OF_BUNDLES = 7, SHARED = 8, OF_NO_PLACES = 9, EMPTY_TOO = 10, TURNED = 11;
    /** How many places undo() brings back when the turn() of the scene is still the latest one. */
    private static final int PLACES_TURNED = 4;

    private static Bench scene() {
        Bench x = weights(10, 20, 30);
        x.ticket(A_TICKET, 1, 7);
        x.fill(OF_PRICES, PRICES, 4, 5, 6);
        x.fill(OF_BEADS, BEADS, STONE, NOTHING, PLAIN);
        x.polish(OF_BEADS, 0, 9);
        x.fill(OF_STONES, STONES, STONE, NOTHING);
        x.fill(OF_PEARLS, PEARLS, PEARL, BLACK_PEARL);
        x.fill(OF_BUNDLES, BUNDLES, OF_WEIGHTS, A_TICKET);
        x.share(OF_WEIGHTS, SHARED);
        x.lay(OF_NO_PLACES, BEADS, 0);
        // So that a FILLED that becomes 0, and one that stays, can be told apart.
        x.move(OF_WEIGHTS, 0, OF_WEIGHTS, 0, 2);
        x.fill(TURNED, WEIGHTS, 1, 2, 3, 4);
        x.turn(TURNED, 1);
        return x;
    }

    /** What is due behind a refused call: told(what) is one more than it was. */
    private static void oneMore(Map<String, Long> seen, int what) {
        seen.merge("told(" + what + ")", 1L, Long::sum);
    }

    private static void turnedBack(Map<String, Long> seen) {
        for (int i = 0; i < PLACES_TURNED; i++) {
            seen.put("at(" + TURNED + ", " + i + ")", i + 1L);
        }
    }

    /** A refused call that undo() doesn't know of: the turn() ahead of it is still the one that is taken back. */
    private static void unknownToUndo(Call call, int answer, boolean pieceMade) {
        Bench x = scene();
        Map<String, Long> due = x.all();
        due(call.on(x), answer);
        String story = Bench.story();
        if (pieceMade) {
            oneMore(due, 7);
        }
        same("behind " + story, x.all(), due);
        due(x.undo(), PLACES_TURNED);
        turnedBack(due);
        same("behind undo() of what was ahead of " + story, x.all(), due);
    }

    private static void leavesAll(Call call, int answer) {
        unknownToUndo(call, answer, false);
    }

    private static void makesPiece(Call call, int answer) {
        unknownToUndo(call, answer, true);
    }

    /** A refused call that told() counts, and that undo() takes for the latest one though nothing came of it. */
    private static void counted(Call call, int answer, int undone, boolean triesMove) {
        Bench x = scene();
        Map<String, Long> due = x.all();
        due(call.on(x), answer);
        String story = Bench.story();
        oneMore(due, 1 - answer);
        if (triesMove) {
            due.put("told(0)", 0L);
        }
        same("behind " + story, x.all(), due);
        due(x.undo(), undone);
        same("behind undo() of " + story, x.all(), due);
        due(x.undo(), MISSING);
    }

    /** Of move(), open() and close(): FILLED is 0. */
    private static void move(Call call, int answer, int undone) {
        counted(call, answer, undone, true);
    }

    /** Of turn() and spread(): FILLED stays. */
    private static void other(Call call, int answer, int undone) {
        counted(call, answer, undone, false);
    }

    private static void bad() {
        for (int t : new int[] {-1, 12}) {
            sentence("BAD: no such tray, by each call that changes a bench");
            leavesAll(x -> x.lay(t, WEIGHTS, 2), BAD);
            leavesAll(x -> x.ticket(t, 1, 2) ? 1 : 0, 0);
            leavesAll(x -> x.ticket(t, 0, 2) ? 1 : 0, 0);
            leavesAll(x -> x.share(t, OF_WEIGHTS), BAD);
            leavesAll(x -> x.share(OF_WEIGHTS, t), BAD);
            leavesAll(x -> x.put(t, 0, PLAIN), BAD);
            leavesAll(x -> x.move(t, 0, OF_WEIGHTS, 0, 1), BAD);
            leavesAll(x -> x.move(OF_WEIGHTS, 0, t, 0, 1), BAD);
            leavesAll(x -> x.open(t, 0, 1), BAD);
            leavesAll(x -> x.close(t, 0, 1), BAD);
            leavesAll(x -> x.turn(t, 1), BAD);
            leavesAll(x -> x.spread(t, 1), BAD);
            leavesAll(x -> x.polish(t, 0, 1), BAD);
            sentence("BAD: no such tray, by each call that asks");
            leavesAll(x -> x.match(t, 0, OF_WEIGHTS, 0, 1), BAD);
            leavesAll(x -> x.match(OF_WEIGHTS, 0, t, 0, 1), BAD);
            leavesAll(x -> x.tray(t, 0), BAD);
            leavesAll(x -> x.what(t, 0), BAD);
            leavesAll(x -> (int) x.at(t, 0), 0);
            leavesAll(x -> x.polished(t, 0), 0);
            sentence("BAD ahead of MISSING and NO_ROW, where the other tray is EMPTY or a TICKET");
            for (int u : new int[] {EMPTY, A_TICKET, t}) {
                leavesAll(x -> x.share(t, u), BAD);
                leavesAll(x -> x.share(u, t), BAD);
                leavesAll(x -> x.move(t, 0, u, 0, 1), BAD);
                leavesAll(x -> x.move(u, 0, t, 0, 1), BAD);
                leavesAll(x -> x.match(t, 0, u, 0, 1), BAD);
                leavesAll(x -> x.match(u, 0, t, 0, 1), BAD);
            }
            sentence("BAD ahead of PLACES");
            leavesAll(x -> x.put(t, -1, PLAIN), BAD);
            leavesAll(x -> x.move(t, -1, OF_WEIGHTS, 9, 1), BAD);
            leavesAll(x -> x.open(t, -1, 0), BAD);
            leavesAll(x -> x.close(t, -1, 0), BAD);
            leavesAll(x -> x.spread(t, 0), BAD);
            leavesAll(x -> x.match(t, -1, OF_WEIGHTS, 0, -1), BAD);
            leavesAll(x -> x.polish(t, -1, 1), BAD);
            leavesAll(x -> x.what(t, -1), BAD);
        }
    }

    private static void badBeyondTrays() {
        sentence("lay: BAD: no such KIND, or n is not 0 .. 64");
        leavesAll(x -> x.lay(OF_WEIGHTS, 1, 3), BAD);
        leavesAll(x -> x.lay(OF_WEIGHTS, 14, 3), BAD);
        leavesAll(x -> x.lay(OF_WEIGHTS, WEIGHTS, -1), BAD);
        leavesAll(x -> x.lay(OF_WEIGHTS, WEIGHTS, 65), BAD);
        sentence("ticket: False: no such what");
        leavesAll(x -> x.ticket(OF_WEIGHTS, -1, 3) ? 1 : 0, 0);
        leavesAll(x -> x.ticket(OF_WEIGHTS, 2, 3) ? 1 : 0, 0);
        sentence("tray: BAD: no such what");
        leavesAll(x -> x.tray(OF_WEIGHTS, -1), BAD);
        leavesAll(x -> x.tray(OF_WEIGHTS, 2), BAD);
        sentence("told: BAD for another what");
        leavesAll(x -> x.told(-1), BAD);
        leavesAll(x -> x.told(8), BAD);
    }

    /** MISSING of an EMPTY tray and NO_ROW of a TICKET, by each call that wants a row. */
    private static void withoutRow(String name, int tray, int answer) {
        sentence("MOVE: " + name + ": a has no row");
        move(x -> x.move(tray, 0, OF_WEIGHTS, 0, 0), answer, 3);
        move(x -> x.move(tray, 0, OF_BUNDLES, 0, 1), answer, 2);
        sentence("MOVE: " + name + ": b has no row");
        move(x -> x.move(OF_WEIGHTS, 0, tray, 0, 0), answer, MISSING);
        move(x -> x.move(OF_BEADS, 0, tray, 0, 1), answer, MISSING);
        sentence("MOVE: " + name + ": neither has a row");
        move(x -> x.move(tray, 0, tray, 0, 0), answer, MISSING);
        sentence("open, close: refused as " + name + ", whatever a TICKET's number is");
        move(x -> x.open(tray, 0, 0), answer, MISSING);
        move(x -> x.open(tray, 7, 0), answer, MISSING);
        move(x -> x.close(tray, 0, 0), answer, MISSING);
        move(x -> x.close(tray, 0, 7), answer, MISSING);
        sentence("turn, spread: " + name);
        other(x -> x.turn(tray, 1), answer, MISSING);
        other(x -> x.spread(tray, 1), answer, MISSING);
        sentence("put: " + name + ", and no piece is made");
        leavesAll(x -> x.put(tray, 0, PLAIN), answer);
        sentence("what: " + name + "; at, polished: 0");
        leavesAll(x -> x.what(tray, 0), answer);
        leavesAll(x -> (int) x.at(tray, 0), 0);
        leavesAll(x -> x.polished(tray, 0), 0);
        sentence("match: " + name);
        leavesAll(x -> x.match(tray, 0, OF_WEIGHTS, 0, 1), answer);
        leavesAll(x -> x.match(OF_WEIGHTS, 0, tray, 0, 1), answer);
        leavesAll(x -> x.match(tray, 0, tray, 0, 0), answer);
        sentence("polish: " + name);
        leavesAll(x -> x.polish(tray, 0, 1), answer);
    }

    /** The other row has NUMBERS too, so that MISSING and NO_ROW come ahead of UNLIKE as well. */
    private static void withoutRowAheadOfPlaces(String name, int tray, int answer) {
        sentence("MOVE: " + name + " ahead of PLACES");
        move(x -> x.move(tray, -1, OF_WEIGHTS, 0, 1), answer, 3);
        move(x -> x.move(tray, 0, OF_WEIGHTS, 4, 1), answer, 3);
        move(x -> x.move(OF_WEIGHTS, 0, tray, 0, -1), answer, MISSING);
        sentence("open, close: " + name + " ahead of PLACES");
        move(x -> x.open(tray, -1, 1), answer, MISSING);
        move(x -> x.open(tray, 8, 0), answer, MISSING);
        move(x -> x.close(tray, 0, 8), answer, MISSING);
        move(x -> x.close(tray, MAX, 1), answer, MISSING);
        sentence("spread: " + name + " ahead of PLACES");
        other(x -> x.spread(tray, 0), answer, MISSING);
        other(x -> x.spread(tray, 8), answer, MISSING);
        sentence("put, what, match, polish: " + name + " ahead of PLACES");
        leavesAll(x -> x.put(tray, -1, PLAIN), answer);
        leavesAll(x -> x.what(tray, -1), answer);
        leavesAll(x -> x.match(tray, -1, OF_WEIGHTS, 0, 1), answer);
        leavesAll(x -> x.match(OF_WEIGHTS, 0, tray, 0, -1), answer);
        leavesAll(x -> x.polish(tray, -1, 1), answer);
    }

    private static void missing() {
        sentence("MOVE: MISSING: two EMPTY trays");
        move(x -> x.move(EMPTY, 0, EMPTY_TOO, 0, 0), MISSING, MISSING);
        sentence("MOVE: MISSING ahead of NO_ROW");
        move(x -> x.move(EMPTY, 0, A_TICKET, 0, 0), MISSING, MISSING);
        move(x -> x.move(A_TICKET, 0, EMPTY, 0, 0), MISSING, MISSING);
        sentence("match: MISSING ahead of NO_ROW");
        leavesAll(x -> x.match(EMPTY, 0, A_TICKET, 0, 0), MISSING);
        leavesAll(x -> x.match(A_TICKET, 0, EMPTY, 0, 0), MISSING);
        sentence("polish: MISSING: NOTHING there");
        leavesAll(x -> x.polish(OF_BEADS, 1, 1), MISSING);
        leavesAll(x -> x.polish(OF_STONES, 1, 1), MISSING);
    }

    private static void unlike() {
        sentence("MOVE: UNLIKE: one has NUMBERS, and the other one is of another KIND");
        move(x -> x.move(OF_WEIGHTS, 0, OF_PRICES, 0, 1), UNLIKE, 3);
        move(x -> x.move(OF_PRICES, 0, OF_WEIGHTS, 0, 1), UNLIKE, 3);
        move(x -> x.move(OF_WEIGHTS, 0, OF_BEADS, 0, 1), UNLIKE, 3);
        move(x -> x.move(OF_BUNDLES, 0, OF_WEIGHTS, 0, 1), UNLIKE, 3);
        move(x -> x.move(OF_WEIGHTS, 0, OF_BUNDLES, 0, 1), UNLIKE, 2);
        sentence("MOVE: UNLIKE of no places too");
        move(x -> x.move(OF_WEIGHTS, 0, OF_PRICES, 0, 0), UNLIKE, 3);
        move(x -> x.move(OF_WEIGHTS, 3, OF_NO_PLACES, 0, 0), UNLIKE, 0);
        move(x -> x.move(OF_NO_PLACES, 0, OF_WEIGHTS, 3, 0), UNLIKE, 3);
        sentence("MOVE: UNLIKE ahead of PLACES");
        move(x -> x.move(OF_WEIGHTS, -1, OF_PRICES, 0, 1), UNLIKE, 3);
        move(x -> x.move(OF_WEIGHTS, 0, OF_STONES, 0, 3), UNLIKE, 2);
        move(x -> x.move(OF_PEARLS, 0, OF_WEIGHTS, 0, -1), UNLIKE, 3);
        sentence("match: UNLIKE as of a MOVE");
        leavesAll(x -> x.match(OF_WEIGHTS, 0, OF_PRICES, 0, 1), UNLIKE);
        leavesAll(x -> x.match(OF_BEADS, 0, OF_WEIGHTS, 0, 0), UNLIKE);
        leavesAll(x -> x.match(OF_WEIGHTS, 0, OF_BUNDLES, 0, 1), UNLIKE);
        sentence("match: UNLIKE ahead of PLACES");
        leavesAll(x -> x.match(OF_WEIGHTS, -1, OF_PRICES, 0, 1), UNLIKE);
        leavesAll(x -> x.match(OF_WEIGHTS, 0, OF_STONES, 9, 1), UNLIKE);
        leavesAll(x -> x.match(OF_PEARLS, 0, OF_WEIGHTS, 0, -1), UNLIKE);
        sentence("put: UNLIKE: the piece doesn't go into the row, and it is made");
        makesPiece(x -> x.put(OF_STONES, 0, PLAIN), UNLIKE);
        makesPiece(x -> x.put(OF_STONES, 0, PEARL), UNLIKE);
        makesPiece(x -> x.put(OF_STONES, 0, BLACK_PEARL), UNLIKE);
        makesPiece(x -> x.put(OF_PEARLS, 0, PLAIN), UNLIKE);
        makesPiece(x -> x.put(OF_PEARLS, 0, STONE), UNLIKE);
        sentence("polish: UNLIKE: a row of NUMBERS or BUNDLES");
        leavesAll(x -> x.polish(OF_WEIGHTS, 0, 1), UNLIKE);
        leavesAll(x -> x.polish(OF_PRICES, 0, 1), UNLIKE);
        leavesAll(x -> x.polish(OF_BUNDLES, 0, 1), UNLIKE);
        sentence("polish: UNLIKE ahead of PLACES and of MISSING");
        leavesAll(x -> x.polish(OF_WEIGHTS, 3, 1), UNLIKE);
        leavesAll(x -> x.polish(OF_BUNDLES, 2, 1), UNLIKE);
        leavesAll(x -> x.polish(OF_BUNDLES, 1, 1), UNLIKE);
    }

    /** Each pair of the twelve KINDS, with NOTHING or 0 at every place. */
    private static void unlikePairs() {
        for (int a = 2; a <= 13; a++) {
            for (int b = 2; b <= 13; b++) {
                boolean unlike = a != b && (a <= LENGTHS || b <= LENGTHS);
                Bench x = new Bench();
                x.lay(0, a, 2);
                x.lay(1, b, 2);
                sentence("MOVE: UNLIKE of each pair of KINDS");
                due(x.move(0, 0, 1, 0, 2), unlike ? UNLIKE : 2);
                due(x.told(4), unlike ? 1 : 0);
                sentence("match: UNLIKE of each pair of KINDS");
                due(x.match(0, 0, 1, 0, 2), unlike ? UNLIKE : 2);
            }
        }
    }

    private static void places() {
        sentence("MOVE: PLACES: p, q or n is below 0");
        move(x -> x.move(OF_WEIGHTS, -1, TURNED, 0, 1), PLACES, 4);
        move(x -> x.move(TURNED, 0, OF_WEIGHTS, -1, 1), PLACES, 3);
        move(x -> x.move(OF_WEIGHTS, 2, TURNED, 2, -1), PLACES, 4);
        sentence("MOVE: PLACES: p and n together are more than a has");
        move(x -> x.move(OF_WEIGHTS, 0, TURNED, 0, 4), PLACES, 4);
        move(x -> x.move(OF_WEIGHTS, 3, TURNED, 0, 1), PLACES, 4);
        move(x -> x.move(OF_WEIGHTS, 4, TURNED, 0, 0), PLACES, 4);
        sentence("MOVE: PLACES: q and n together are more than b has");
        move(x -> x.move(TURNED, 0, OF_WEIGHTS, 0, 4), PLACES, 3);
        move(x -> x.move(TURNED, 0, OF_WEIGHTS, 3, 1), PLACES, 3);
        move(x -> x.move(TURNED, 0, OF_WEIGHTS, 4, 0), PLACES, 3);
        move(x -> x.move(OF_WEIGHTS, 0, SHARED, 1, 3), PLACES, 3);
        sentence("MOVE: PLACES ahead of STOPPED: none comes, though the first would");
        move(x -> x.move(OF_BEADS, 0, OF_STONES, 0, 3), PLACES, 2);
        move(x -> x.move(OF_BEADS, 2, OF_STONES, 0, 2), PLACES, 2);
        move(x -> x.move(OF_PEARLS, 0, OF_STONES, 2, 1), PLACES, 2);
        sentence("open, close: refused as PLACES");
        move(x -> x.open(OF_WEIGHTS, 0, 4), PLACES, 3);
        move(x -> x.open(OF_WEIGHTS, 4, 0), PLACES, 3);
        move(x -> x.open(OF_WEIGHTS, -1, 1), PLACES, 3);
        move(x -> x.open(OF_WEIGHTS, 1, -1), PLACES, 3);
        move(x -> x.close(OF_WEIGHTS, 0, 4), PLACES, 3);
        move(x -> x.close(OF_WEIGHTS, 4, 0), PLACES, 3);
        move(x -> x.close(OF_WEIGHTS, -1, 1), PLACES, 3);
        move(x -> x.close(OF_WEIGHTS, 1, -1), PLACES, 3);
        sentence("spread: PLACES: n is not 1 .. m");
        other(x -> x.spread(OF_WEIGHTS, 0), PLACES, 3);
        other(x -> x.spread(OF_WEIGHTS, 4), PLACES, 3);
        other(x -> x.spread(OF_NO_PLACES, 0), PLACES, 0);
        other(x -> x.spread(OF_NO_PLACES, 1), PLACES, 0);
    }

    private static void placesElsewhere() {
        sentence("match: PLACES");
        leavesAll(x -> x.match(OF_WEIGHTS, -1, TURNED, 0, 1), PLACES);
        leavesAll(x -> x.match(OF_WEIGHTS, 0, TURNED, -1, 1), PLACES);
        leavesAll(x -> x.match(OF_WEIGHTS, 0, TURNED, 0, -1), PLACES);
        leavesAll(x -> x.match(OF_WEIGHTS, 4, TURNED, 0, 1), PLACES);
        leavesAll(x -> x.match(OF_WEIGHTS, 0, TURNED, 5, 1), PLACES);
        sentence("put: PLACES: there is no such place");
        leavesAll(x -> x.put(OF_WEIGHTS, -1, 1), PLACES);
        leavesAll(x -> x.put(OF_WEIGHTS, 3, 1), PLACES);
        leavesAll(x -> x.put(OF_BUNDLES, 2, OF_WEIGHTS), PLACES);
        leavesAll(x -> x.put(OF_BEADS, 3, NOTHING), PLACES);
        sentence("put: PLACES, and the piece is made");
        makesPiece(x -> x.put(OF_BEADS, -1, PLAIN), PLACES);
        makesPiece(x -> x.put(OF_BEADS, 3, PLAIN), PLACES);
        makesPiece(x -> x.put(OF_STONES, 2, STONE), PLACES);
        makesPiece(x -> x.put(OF_NO_PLACES, 0, PEARL), PLACES);
        sentence("put: PLACES ahead of UNLIKE");
        makesPiece(x -> x.put(OF_STONES, 2, PEARL), PLACES);
        makesPiece(x -> x.put(OF_PEARLS, -1, PLAIN), PLACES);
        sentence("polish: PLACES");
        leavesAll(x -> x.polish(OF_BEADS, -1, 1), PLACES);
        leavesAll(x -> x.polish(OF_BEADS, 3, 1), PLACES);
        leavesAll(x -> x.polish(OF_NO_PLACES, 0, 1), PLACES);
        sentence("what, at, polished: PLACES");
        leavesAll(x -> x.what(OF_WEIGHTS, -1), PLACES);
        leavesAll(x -> x.what(OF_BUNDLES, 2), PLACES);
        leavesAll(x -> (int) x.at(OF_WEIGHTS, 3), 0);
        leavesAll(x -> (int) x.at(OF_WEIGHTS, -1), 0);
        leavesAll(x -> x.polished(OF_BEADS, 3), 0);
        leavesAll(x -> x.polished(OF_BEADS, -1), 0);
    }

    /** Those that are stopped at their first place; behind others more than told() is changed. */
    private static void stopped() {
        sentence("MOVE: STOPPED at the first of its places: FILLED is 0");
        move(x -> x.move(OF_PEARLS, 0, OF_STONES, 0, 2), STOPPED, 2);
        move(x -> x.move(OF_STONES, 0, OF_PEARLS, 1, 1), STOPPED, 2);
        move(x -> x.move(OF_BEADS, 2, OF_STONES, 0, 1), STOPPED, 2);
        move(x -> x.move(OF_BEADS, 0, OF_BUNDLES, 0, 1), STOPPED, 2);
        move(x -> x.move(OF_BUNDLES, 0, OF_BEADS, 0, 2), STOPPED, 3);
        move(x -> x.move(OF_BUNDLES, 0, OF_PEARLS, 0, 1), STOPPED, 2);
    }

    private static void undoRefused() {
        sentence("undo: MISSING leaves all as it was, and told() doesn't count it");
        Bench x = scene();
        x.undo();
        Map<String, Long> due = x.all();
        due(x.undo(), MISSING);
        same("behind undo() that is MISSING", x.all(), due);
    }

    public static void main(String[] args) {
        bad();
        badBeyondTrays();
        withoutRow("MISSING", EMPTY, MISSING);
        withoutRow("NO_ROW", A_TICKET, NO_ROW);
        withoutRowAheadOfPlaces("MISSING", EMPTY, MISSING);
        withoutRowAheadOfPlaces("NO_ROW", A_TICKET, NO_ROW);
        missing();
        unlike();
        unlikePairs();
        places();
        placesElsewhere();
        stopped();
        undoRefused();
        end();
    }
}
