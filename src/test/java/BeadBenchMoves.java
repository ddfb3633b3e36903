/** What goes into which row, where a MOVE is STOPPED and what has come by then, FILLED, and MOVES within one row. */
public final class BeadBenchMoves extends Checks {
    private static final int A_ROW = 5;
    /** What what() answers for each choice of lone(). */
    private static final int[] WHATS = {0, 2, 3, 4, 5, 6};

    /** Tray 0 gets one such thing, in a row of the KIND that takes it; false when the KIND takes none such. */
    private static boolean lone(Bench x, int kind, int choice) {
        x.fill(9, WEIGHTS, 3, 4);
        x.lay(0, kind, 1);
        if (kind == BUNDLES) {
            return (choice == NOTHING || choice == A_ROW) && x.put(0, 0, choice == A_ROW ? 9 : -1) == 1;
        }
        return choice != A_ROW && x.put(0, 0, choice) == 1;
    }

    private static boolean goesInto(int kind, int choice) {
        switch (choice) {
            case NOTHING:
                return true;
            case PLAIN:
                return kind == BEADS;
            case STONE:
                return kind == BEADS || kind == STONES;
            case A_ROW:
                return kind == BUNDLES;
            default:
                return kind == BEADS || kind == PEARLS;
        }
    }

    private static void whatGoesIntoWhich() {
        int pairs = 0;
        for (int from = BEADS; from <= BUNDLES; from++) {
            for (int to = BEADS; to <= BUNDLES; to++) {
                for (int choice = NOTHING; choice <= A_ROW; choice++) {
                    Bench x = new Bench();
                    if (!lone(x, from, choice)) {
                        continue;
                    }
                    pairs++;
                    boolean goes = goesInto(to, choice);
                    x.lay(1, to, 1);
                    sentence("MOVE: NOTHING and THINGS that go into b come there");
                    due(x.move(0, 0, 1, 0, 1), goes ? 1 : STOPPED);
                    due(x.what(1, 0), goes ? WHATS[choice] : 0);
                    due(x.match(0, 0, 1, 0, 1), goes ? 1 : 0);
                    due(x.what(0, 0), WHATS[choice]);
                    sentence("told: FILLED, and how many went well and were STOPPED");
                    due(x.told(0), goes ? 1 : 0);
                    due(x.told(1), goes ? 1 : 0);
                    due(x.told(6), goes ? 0 : 1);
                }
            }
        }
        sentence("PIECES are THINGS: the KINDS take 5, 2, 3 and 2 of the six");
        due(pairs, 4 * (5 + 2 + 3 + 2));
    }

    private static void nothingOverThing() {
        sentence("MOVE: NOTHING comes over a THING");
        Bench x = new Bench();
        x.fill(0, BEADS, STONE, PLAIN);
        x.lay(1, BUNDLES, 2);
        due(x.move(1, 0, 0, 0, 2), 2);
        due(x.what(0, 0), 0);
        due(x.what(0, 1), 0);
        due(x.told(0), 2);
    }

    /** STONES of 6 places; at place 'stop' of the BEADS that move there is a PEARL. */
    private static void stoppedAt(int stop) {
        Bench x = new Bench();
        x.lay(0, BEADS, 6);
        for (int i = 0; i < 6; i++) {
            x.put(0, i, i == stop ? PEARL : STONE);
        }
        x.fill(1, STONES, STONE, STONE, STONE, STONE, STONE, STONE);
        sentence("MOVE: at the first THING that doesn't it is STOPPED");
        due(x.move(0, 0, 1, 0, 6), STOPPED);
        sentence("FILLED is how many came, when STOPPED");
        due(x.told(0), stop);
        sentence("MOVE: what came ahead of it stays");
        for (int i = 0; i < stop; i++) {
            due(x.at(1, i), i + 1);
        }
        sentence("MOVE: what is behind the THING that doesn't go is as it was");
        for (int i = stop; i < 6; i++) {
            due(x.at(1, i), i + 7);
        }
        sentence("MOVE: the row a is as it was");
        row(x, 0, 1, 2, 3, 4, 5, 6);
        due(x.told(6), 1);
        sentence("MOVE: not STOPPED when the THING is behind its places");
        due(x.move(0, 0, 1, 0, stop), stop);
        due(x.told(0), stop);
        sentence("MOVE: not STOPPED when the THING is ahead of its places");
        due(x.move(0, stop + 1, 1, 0, 5 - stop), 5 - stop);
        due(x.told(0), 5 - stop);
    }

    private static void stopped() {
        for (int stop = 0; stop < 6; stop++) {
            stoppedAt(stop);
        }
        sentence("MOVE: NOTHING comes ahead of the THING where it is STOPPED");
        Bench x = new Bench();
        x.fill(0, BEADS, NOTHING, BLACK_PEARL, PLAIN, BLACK_PEARL);
        x.fill(1, PEARLS, PEARL, PEARL, PEARL, PEARL);
        due(x.move(0, 0, 1, 0, 4), STOPPED);
        due(x.told(0), 2);
        row(x, 1, 0, 1, 6, 7);
        sentence("MOVE: none that goes comes behind two that don't");
        due(x.move(0, 2, 1, 2, 2), STOPPED);
        due(x.told(0), 0);
        row(x, 1, 0, 1, 6, 7);
    }

    private static void filled() {
        sentence("told: FILLED is 0 at first");
        due(new Bench().told(0), 0);
        Bench x = weights(1, 2, 3, 4);
        sentence("told: FILLED of the latest MOVE that move(), open() or close() tried");
        x.move(0, 0, 0, 1, 3);
        due(x.told(0), 3);
        x.open(0, 0, 2);
        due(x.told(0), 2);
        x.close(0, 0, 1);
        due(x.told(0), 3);
        x.move(0, 0, 0, 0, 0);
        due(x.told(0), 0);
        x.close(0, 0, 0);
        due(x.told(0), 4);
        x.close(0, 1, 0);
        due(x.told(0), 3);
        sentence("told: FILLED is not of turn(), spread(), undo() or match(), well or refused");
        Call[] others = {b -> b.turn(0, 1), b -> b.turn(5, 1), b -> b.spread(0, 2), b -> b.spread(0, 0), Bench::undo,
            Bench::undo, b -> b.match(0, 0, 0, 0, 1), b -> b.match(0, -1, 0, 0, 1)};
        for (Call other : others) {
            other.on(x);
            due(x.told(0), 3);
        }
        sentence("told: FILLED: BAD tries none");
        x.move(12, 0, 0, 0, 1);
        x.move(0, 0, -1, 0, 1);
        x.open(-1, 0, 0);
        x.close(12, 0, 0);
        due(x.told(0), 3);
        sentence("told: FILLED is 0 when it was refused otherwise");
        x.open(0, 5, 0);
        due(x.told(0), 0);
    }

    private static void wentWell() {
        sentence("told: 1 how many of move(), open(), close(), turn(), spread() went well");
        Bench x = weights(1, 2, 3);
        Call[] calls = {b -> b.move(0, 0, 0, 0, 1), b -> b.open(0, 0, 3), b -> b.close(0, 3, 0), b -> b.turn(0, 0),
            b -> b.spread(0, 3)};
        for (int c = 0; c < calls.length; c++) {
            calls[c].on(x);
            due(x.told(1), c + 1);
        }
        sentence("told: 1 no other call, though it went well");
        x.put(0, 0, 1);
        x.fill(1, BEADS, PLAIN);
        x.ticket(2, 1, 1);
        x.share(0, 3);
        x.polish(1, 0, 1);
        x.match(0, 0, 3, 0, 3);
        x.undo();
        due(x.told(1), 5);
        for (int w = 2; w <= 6; w++) {
            due(x.told(w), 0);
        }
    }

    /** Every MOVE within a row of 4 places, of NUMBERS and of pieces, in one tray and through two that have it. */
    private static void within() {
        for (int p = 0; p <= 4; p++) {
            for (int q = 0; q <= 4; q++) {
                for (int n = 0; n <= 4 - Math.max(p, q); n++) {
                    for (int to = 0; to <= 1; to++) {
                        within(weights(1, 2, 3, 4), p, to, q, n);
                        Bench x = new Bench();
                        x.fill(0, BEADS, PLAIN, STONE, PEARL, BLACK_PEARL);
                        within(x, p, to, q, n);
                    }
                }
            }
        }
    }

    private static void within(Bench x, int p, int to, int q, int n) {
        sentence("MOVE: each place as a had it ahead of the MOVE, in tray " + to);
        x.share(0, 1);
        due(x.move(0, p, to, q, n), n);
        for (int i = 0; i < 4; i++) {
            due(x.at(0, i), i >= q && i < q + n ? p + i - q + 1 : i + 1);
        }
    }

    private static void numbersOfPieces() {
        sentence("put: NUMBERS from 1 on, as pieces are made, also when PLACES or UNLIKE comes of it");
        Bench x = new Bench();
        x.lay(0, STONES, 1);
        due(x.put(0, 0, STONE), 1);
        due(x.at(0, 0), 1);
        due(x.put(0, 1, STONE), PLACES);
        due(x.put(0, 0, PEARL), UNLIKE);
        due(x.put(0, 0, STONE), 1);
        due(x.at(0, 0), 4);
        sentence("told: 7 pieces made: of 10 to 12 alone, and NOTHING is none");
        x.put(0, 0, NOTHING);
        x.put(0, -1, NOTHING);
        x.put(5, 0, STONE);
        x.put(12, 0, STONE);
        x.ticket(5, 1, 0);
        x.put(5, 0, STONE);
        x.fill(1, WEIGHTS, 1, 2);
        x.fill(2, BUNDLES, 1, 2);
        due(x.told(7), 4);
        sentence("PIECES: each has a NUMBER and POLISH wherever it lies");
        x.fill(3, BEADS, STONE, NOTHING);
        x.move(3, 0, 3, 1, 1);
        x.move(3, 0, 0, 0, 1);
        due(x.polish(0, 0, 3), 5);
        due(x.polish(3, 0, 4), 5);
        due(x.polished(3, 1), 7);
    }

    private static void alike() {
        sentence("match: the same THING, not a like one");
        Bench x = new Bench();
        x.fill(0, BEADS, STONE, STONE);
        x.lay(1, STONES, 2);
        x.move(0, 0, 1, 0, 1);
        x.put(1, 1, STONE);
        due(x.match(0, 0, 1, 0, 2), 1);
        due(x.match(0, 1, 1, 1, 1), 0);
        sentence("match: a THING and NOTHING aren't alike");
        x.put(1, 0, NOTHING);
        due(x.match(0, 0, 1, 0, 2), 0);
        due(x.match(1, 0, 0, 0, 2), 0);
        sentence("match: ahead of the first two that aren't alike, at each place and none");
        for (int other = 0; other <= 4; other++) {
            Bench y = weights(7, 7, 7, 7);
            y.fill(1, WEIGHTS, 7, 7, 7, 7);
            y.put(1, other, 8);
            due(y.match(0, 0, 1, 0, 4), other);
            due(y.match(1, 0, 0, 0, 4), other);
            due(y.match(0, 0, 1, 0, 3), Math.min(other, 3));
        }
    }

    /** Two values that differ, and whether they still do once they are put into a row of the KIND. */
    private static void alikeOncePut(int kind, int v, int w, boolean alike) {
        sentence("match: NUMBERS that are equal, as a row of KIND " + kind + " has them");
        Bench x = new Bench();
        x.fill(0, kind, v);
        x.fill(1, kind, w);
        due(x.match(0, 0, 1, 0, 1), alike ? 1 : 0);
    }

    private static void equalNumbers() {
        alikeOncePut(NOTCHES, 1, -2, true);
        alikeOncePut(NOTCHES, 1, 0, false);
        alikeOncePut(TINTS, 128, -128, true);
        alikeOncePut(TINTS, 127, -128, false);
        alikeOncePut(LETTERS, 65535, -1, true);
        alikeOncePut(LETTERS, 65535, 32767, false);
        alikeOncePut(STEPS, 32768, -32768, true);
        alikeOncePut(STEPS, 1, 257, false);
        alikeOncePut(WEIGHTS, MAX, MIN, false);
        alikeOncePut(PRICES, MAX, MIN, false);
        alikeOncePut(SIZES, 16777217, 16777216, true);
        alikeOncePut(SIZES, 16777217, 16777218, false);
        alikeOncePut(LENGTHS, 16777217, 16777216, false);
    }

    public static void main(String[] args) {
        whatGoesIntoWhich();
        nothingOverThing();
        stopped();
        filled();
        wentWell();
        within();
        numbersOfPieces();
        alike();
        equalNumbers();
        end();
    }
}
