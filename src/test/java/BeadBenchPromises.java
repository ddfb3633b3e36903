/** One method for each promise of the document: ordinary inputs, the edges it names, and wrong inputs. */
public final class BeadBenchPromises extends Checks {
    private static void newObject() {
        sentence("1 a new object");
        Bench x = new Bench();
        for (int t = 0; t < 12; t++) {
            due(x.tray(t, 0), 0);
            due(x.tray(t, 1), 0);
            due(x.what(t, 0), MISSING);
        }
        for (int w = 0; w < 8; w++) {
            due(x.told(w), 0);
        }
        due(x.undo(), MISSING);
        Bench y = weights(1);
        due("another object's tray", x.tray(0, 0), 0);
        due("its own tray", y.tray(0, 0), WEIGHTS);
    }

    private static void lay() {
        sentence("2 lay");
        Bench x = new Bench();
        for (int kind = 2; kind <= 13; kind++) {
            due(x.lay(11, kind, 64), 64);
            due("kind", x.tray(11, 0), kind);
            due("places", x.tray(11, 1), 64);
            due("first place", x.what(11, 0), kind <= LENGTHS ? 1 : 0);
            due("last place", x.what(11, 63), kind <= LENGTHS ? 1 : 0);
            due("at the last place", x.at(11, 63), 0);
        }
        due(x.lay(0, WEIGHTS, 0), 0);
        due("a row of no places", x.tray(0, 0), WEIGHTS);
        due(x.lay(0, WEIGHTS, 65), BAD);
        due(x.lay(0, WEIGHTS, -1), BAD);
        due(x.lay(0, 1, 1), BAD);
        due(x.lay(0, 0, 1), BAD);
        due(x.lay(0, 14, 1), BAD);
        due(x.lay(12, WEIGHTS, 1), BAD);
        due(x.lay(-1, WEIGHTS, 1), BAD);
        due(x.lay(MIN, MIN, MIN), BAD);
        due(x.lay(0, WEIGHTS, MAX), BAD);
        due("what BAD left", x.tray(0, 1), 0);
        x.fill(1, WEIGHTS, 4, 5);
        x.share(1, 2);
        x.lay(1, WEIGHTS, 2);
        row(x, 1, 0, 0);
        row(x, 2, 4, 5);
    }

    private static void ticket() {
        sentence("3 ticket");
        Bench x = weights(1, 2);
        due(x.ticket(0, 1, -7), true);
        due(x.tray(0, 0), 1);
        due(x.tray(0, 1), -7);
        due(x.ticket(0, 2, 5), false);
        due(x.ticket(0, -1, 5), false);
        due(x.ticket(12, 1, 5), false);
        due(x.ticket(-1, 0, 5), false);
        due("what false left", x.tray(0, 1), -7);
        due(x.ticket(0, 0, 9), true);
        due("EMPTY", x.tray(0, 0), 0);
        due("EMPTY has no number", x.tray(0, 1), 0);
        due(x.ticket(11, 1, MIN), true);
        due(x.tray(11, 1), MIN);
    }

    private static void share() {
        sentence("4 share");
        Bench x = weights(1, 2);
        due(x.share(0, 11), WEIGHTS);
        x.put(11, 1, 9);
        row(x, 0, 1, 9);
        due(x.share(0, 0), WEIGHTS);
        row(x, 0, 1, 9);
        x.ticket(1, 1, 33);
        due(x.share(1, 2), 1);
        due("the same TICKET", x.tray(2, 1), 33);
        x.ticket(1, 1, 34);
        due("a TICKET of its own", x.tray(2, 1), 33);
        due(x.share(5, 0), 0);
        due("EMPTY", x.tray(0, 0), 0);
        row(x, 11, 1, 9);
        due(x.share(12, 0), BAD);
        due(x.share(0, 12), BAD);
        due(x.share(-1, 0), BAD);
        due(x.share(0, -1), BAD);
    }

    private static void putNumber(int kind, int v, long want) {
        Bench x = new Bench();
        x.lay(3, kind, 2);
        due(x.put(3, 1, v), 1);
        due("what", x.what(3, 1), 1);
        due("at, kind " + kind + ", v " + v, x.at(3, 1), want);
        due("the other place", x.at(3, 0), 0);
        due("pieces", x.told(7), 0);
    }

    private static void putNumbers() {
        sentence("5 put, NUMBERS");
        putNumber(NOTCHES, 0, 0);
        putNumber(NOTCHES, 1, 1);
        putNumber(NOTCHES, 2, 1);
        putNumber(NOTCHES, -256, 1);
        putNumber(TINTS, 127, 127);
        putNumber(TINTS, 128, -128);
        putNumber(TINTS, -129, 127);
        putNumber(TINTS, 511, -1);
        putNumber(LETTERS, 65535, 65535);
        putNumber(LETTERS, 65536, 0);
        putNumber(LETTERS, -1, 65535);
        putNumber(STEPS, 32767, 32767);
        putNumber(STEPS, 32768, -32768);
        putNumber(STEPS, -32769, 32767);
        putNumber(WEIGHTS, MIN, MIN);
        putNumber(WEIGHTS, MAX, MAX);
        putNumber(PRICES, MIN, MIN);
        putNumber(PRICES, MAX, MAX);
        putNumber(SIZES, 16777216, 16777216);
        putNumber(SIZES, 16777217, 16777216);
        putNumber(SIZES, 16777219, 16777220);
        putNumber(SIZES, -16777217, -16777216);
        putNumber(SIZES, MAX, 2147483648L);
        putNumber(SIZES, MIN, MIN);
        putNumber(LENGTHS, 16777217, 16777217);
        putNumber(LENGTHS, MAX, MAX);
        putNumber(LENGTHS, MIN, MIN);
    }

    private static void putPieces() {
        sentence("5 put, pieces");
        Bench x = new Bench();
        x.lay(0, BEADS, 6);
        for (int v = 0; v < 5; v++) {
            due(x.put(0, v, v), 1);
            due(x.what(0, v), v == 0 ? 0 : v + 1);
        }
        row(x, 0, 0, 1, 2, 3, 4, 0);
        due(x.put(0, 5, -1), 1);
        due("-1 modulo 5 is a BLACK PEARL", x.what(0, 5), 5);
        due(x.put(0, 5, MIN), 1);
        due("MIN modulo 5 is a STONE", x.what(0, 5), 3);
        due(x.put(0, 5, -5), 1);
        due("NOTHING again", x.what(0, 5), 0);
        due("pieces", x.told(7), 6);
        due("no such place", x.put(0, 6, 2), PLACES);
        due("no such place", x.put(0, -1, 0), PLACES);
        due("made all the same, but not of 0", x.told(7), 7);
        int[][] fits = {{1, UNLIKE, UNLIKE}, {2, 1, UNLIKE}, {3, UNLIKE, 1}, {4, UNLIKE, 1}, {5, 1, 1}};
        for (int[] f : fits) {
            x.lay(1, STONES, 1);
            x.lay(2, PEARLS, 1);
            due("STONES get " + f[0], x.put(1, 0, f[0]), f[1]);
            due("PEARLS get " + f[0], x.put(2, 0, f[0]), f[2]);
            due("what STONES have", x.what(1, 0), f[1] == 1 && f[0] < 5 ? f[0] + 1 : 0);
            due("what PEARLS have", x.what(2, 0), f[2] == 1 && f[0] < 5 ? f[0] + 1 : 0);
        }
        due("UNLIKE ones are made too", x.told(7), 15);
        x.lay(1, STONES, 1);
        x.put(1, 0, 2);
        due("PLACES ahead of UNLIKE", x.put(1, 1, 3), PLACES);
        due("UNLIKE", x.put(1, 0, 3), UNLIKE);
        due("what was there stays", x.at(1, 0), 16);
        due("the latest number", x.told(7), 18);
    }

    private static void putRows() {
        sentence("5 put, BUNDLES and refusals");
        Bench x = weights(7, 8, 9);
        x.lay(1, BUNDLES, 2);
        due(x.put(1, 0, 0), 1);
        due("a row", x.what(1, 0), 6);
        due("its places", x.at(1, 0), 3);
        x.put(0, 0, 10);
        due("its sum, seen through the bundle", x.polished(1, 0), 27);
        x.ticket(0, 0, 0);
        due("it stays when its tray has it no more", x.at(1, 0), 3);
        x.lay(2, PRICES, 1);
        x.ticket(3, 1, 6);
        int[] without = {1, 2, 3, 4, 12, -1, MIN, MAX};
        for (int v : without) {
            x.lay(5, WEIGHTS, 1);
            x.put(1, 1, 5);
            due(x.put(1, 1, v), 1);
            due("NOTHING of " + v, x.what(1, 1), 0);
        }
        due(x.put(1, 2, 5), PLACES);
        due("pieces", x.told(7), 0);
        due(x.put(12, 0, 1), BAD);
        due(x.put(-1, 0, 1), BAD);
        due(x.put(4, 0, 1), MISSING);
        due(x.put(3, 0, 1), NO_ROW);
        due(x.put(2, 1, 1), PLACES);
        due(x.put(2, -1, 1), PLACES);
        due(x.put(2, MIN, 1), PLACES);
        for (int w = 1; w < 7; w++) {
            due("put is not told", x.told(w), 0);
        }
    }

    private static void moveRefused() {
        sentence("6 move, refused");
        Bench x = weights(1, 2, 3, 4);
        x.ticket(1, 1, 5);
        x.lay(3, PRICES, 4);
        x.lay(4, BEADS, 4);
        x.lay(5, WEIGHTS, 3);
        due("TICKET to EMPTY", x.move(1, 0, 2, 0, 1), MISSING);
        due("EMPTY to TICKET", x.move(2, 0, 1, 0, 1), MISSING);
        due("row to EMPTY", x.move(0, -1, 2, 0, 1), MISSING);
        due("TICKET to row", x.move(1, 0, 0, -1, 0), NO_ROW);
        due("row to TICKET", x.move(0, 0, 1, 0, 0), NO_ROW);
        due("WEIGHTS to PRICES", x.move(0, 0, 3, 0, 0), UNLIKE);
        due("WEIGHTS to BEADS", x.move(0, -1, 4, 0, 0), UNLIKE);
        due("BEADS to WEIGHTS", x.move(4, 0, 0, 0, 0), UNLIKE);
        due("p below 0", x.move(0, -1, 5, 0, 1), PLACES);
        due("q below 0", x.move(0, 0, 5, -1, 1), PLACES);
        due("n below 0", x.move(0, 2, 5, 2, -1), PLACES);
        due("p + n too far", x.move(0, 3, 5, 0, 2), PLACES);
        due("q + n too far", x.move(0, 0, 5, 2, 2), PLACES);
        due("p too far, n 0", x.move(0, 5, 5, 0, 0), PLACES);
        due("q too far, n 0", x.move(0, 0, 5, 4, 0), PLACES);
        due("p + n would go round", x.move(0, MAX, 5, 0, MAX), PLACES);
        due("q + n would go round", x.move(0, 0, 5, MAX, 1), PLACES);
        due("no such tray", x.move(12, 0, 0, 0, 0), BAD);
        due("no such tray", x.move(0, 0, 12, 0, 0), BAD);
        due("no such tray", x.move(-1, 0, 0, 0, 0), BAD);
        due("no such tray", x.move(0, 0, -1, 0, 0), BAD);
        due("all places and none", x.move(0, 4, 5, 3, 0), 0);
        row(x, 5, 0, 0, 0);
    }

    private static void moveWell() {
        sentence("6 move");
        Bench x = weights(1, 2, 3, 4);
        x.lay(1, WEIGHTS, 4);
        due("whole", x.move(0, 0, 1, 0, 4), 4);
        row(x, 1, 1, 2, 3, 4);
        due("forward in one row", x.move(0, 0, 0, 1, 3), 3);
        row(x, 0, 1, 1, 2, 3);
        x.share(1, 2);
        due("back, through two trays of one row", x.move(1, 1, 2, 0, 3), 3);
        row(x, 1, 2, 3, 4, 4);
        due("forward, through two trays of one row", x.move(2, 0, 1, 2, 2), 2);
        row(x, 2, 2, 3, 2, 3);
        for (int kind = NOTCHES; kind <= LENGTHS; kind++) {
            x.fill(3, kind, 1, 0, 1);
            x.lay(4, kind, 2);
            due("kind " + kind, x.move(3, 1, 4, 0, 2), 2);
            row(x, 4, 0, 1);
        }
    }

    private static void moveThings() {
        sentence("6 move, THINGS");
        Bench x = new Bench();
        x.fill(0, BEADS, 2, 0, 2, 3, 2);
        x.lay(1, STONES, 5);
        x.put(1, 1, 2);
        x.put(1, 4, 2);
        due("STOPPED at the PEARL", x.move(0, 0, 1, 0, 5), STOPPED);
        due("FILLED", x.told(0), 3);
        row(x, 1, 1, 0, 2, 0, 6);
        due("STONES into BEADS", x.move(1, 0, 0, 2, 3), 3);
        row(x, 0, 1, 0, 1, 0, 2);
        x.fill(2, PEARLS, 3, 4);
        x.lay(3, BEADS, 2);
        due("PEARLS into BEADS", x.move(2, 0, 3, 0, 2), 2);
        due("BEADS into PEARLS", x.move(3, 0, 2, 0, 2), 2);
        due("PEARL", x.what(2, 0), 4);
        due("BLACK PEARL", x.what(2, 1), 5);
        x.polish(3, 0, 5);
        due("the same piece in both", x.polished(2, 0), 5);
        due("PEARLS into STONES", x.move(2, 0, 1, 0, 1), STOPPED);
        due("FILLED", x.told(0), 0);
        x.lay(4, STONES, 2);
        due("NOTHING goes anywhere", x.move(4, 0, 2, 0, 2), 2);
        due("NOTHING", x.what(2, 1), 0);
        x.fill(5, WEIGHTS, 1);
        x.fill(6, BUNDLES, 12, 5);
        due("BUNDLES into BEADS", x.move(6, 0, 3, 0, 2), STOPPED);
        due("FILLED", x.told(0), 1);
        due("NOTHING came", x.what(3, 0), 0);
        due("BUNDLES into BUNDLES", x.move(6, 1, 6, 0, 1), 1);
        due("a row came", x.what(6, 0), 6);
        due("pieces into BUNDLES", x.move(0, 0, 6, 0, 1), STOPPED);
        due("NOTHING into BUNDLES", x.move(0, 1, 6, 0, 1), 1);
        due("NOTHING", x.what(6, 0), 0);
        due("WEIGHTS into BUNDLES", x.move(5, 0, 6, 0, 1), UNLIKE);
        x.fill(7, BEADS, 1, 4);
        x.lay(8, PEARLS, 2);
        due("PLAIN into PEARLS", x.move(7, 0, 8, 0, 2), STOPPED);
        due("what is behind it doesn't come", x.what(8, 1), 0);
    }

    private static void open() {
        sentence("7 open");
        Bench x = weights(1, 2, 3, 4, 5);
        due(x.open(0, 1, 2), 2);
        row(x, 0, 1, 2, 3, 2, 3);
        due("FILLED", x.told(0), 2);
        due(x.open(0, 0, 5), 0);
        due(x.open(0, 5, 0), 0);
        due(x.open(0, 2, 0), 3);
        due(x.open(0, 5, 1), PLACES);
        due(x.open(0, -1, 1), PLACES);
        due(x.open(0, 2, -1), PLACES);
        due(x.open(0, MAX, 1), PLACES);
        due(x.open(0, MAX, MAX), PLACES);
        due(x.open(0, MIN, MIN), PLACES);
        row(x, 0, 1, 2, 3, 2, 3);
        due(x.open(12, 0, 0), BAD);
        due(x.open(-1, 0, 0), BAD);
        due("EMPTY", x.open(1, 0, 0), MISSING);
        x.ticket(1, 1, 4);
        due("TICKET", x.open(1, 0, 0), NO_ROW);
        due("well", x.told(1), 4);
        due("PLACES", x.told(5), 6);
        x.fill(2, PEARLS, 3, 4, 0);
        due("of PEARLS", x.open(2, 0, 1), 2);
        row(x, 2, 1, 1, 2);
        x.lay(3, BEADS, 0);
        due("of no places", x.open(3, 0, 0), 0);
    }

    private static void close() {
        sentence("8 close");
        Bench x = weights(1, 2, 3, 4, 5);
        due(x.close(0, 1, 2), 2);
        row(x, 0, 1, 4, 5, 4, 5);
        due("FILLED", x.told(0), 2);
        due(x.close(0, 0, 1), 4);
        row(x, 0, 4, 5, 4, 5, 5);
        due(x.close(0, 0, 5), 0);
        due(x.close(0, 5, 0), 0);
        due(x.close(0, 5, 1), PLACES);
        due(x.close(0, -1, 1), PLACES);
        due(x.close(0, 2, -1), PLACES);
        due(x.close(0, MAX, MAX), PLACES);
        due(x.close(0, MIN, MIN), PLACES);
        due(x.close(12, 0, 0), BAD);
        due(x.close(-1, 0, 0), BAD);
        due("EMPTY", x.close(1, 0, 0), MISSING);
        x.ticket(1, 1, 4);
        due("TICKET", x.close(1, 0, 0), NO_ROW);
        due("well", x.told(1), 4);
        due("PLACES", x.told(5), 5);
    }

    private static void turn() {
        sentence("9 turn");
        Bench x = weights(1, 2, 3, 4, 5);
        due(x.turn(0, 2), 5);
        row(x, 0, 3, 4, 5, 1, 2);
        due(x.turn(0, -2), 5);
        row(x, 0, 1, 2, 3, 4, 5);
        due(x.turn(0, 5), 5);
        row(x, 0, 1, 2, 3, 4, 5);
        due(x.turn(0, MAX), 5);
        row(x, 0, 3, 4, 5, 1, 2);
        due(x.turn(0, MIN), 5);
        row(x, 0, 5, 1, 2, 3, 4);
        x.fill(1, BEADS, 1, 0, 2);
        due("of BEADS", x.turn(1, 1), 3);
        row(x, 1, 0, 2, 1);
        x.lay(2, BUNDLES, 0);
        due("of no places", x.turn(2, 3), 0);
        due("EMPTY", x.turn(3, 0), MISSING);
        x.ticket(3, 1, 3);
        due("TICKET", x.turn(3, 0), NO_ROW);
        due("no such tray", x.turn(12, 0), BAD);
        due("no such tray", x.turn(-1, 0), BAD);
        due("well", x.told(1), 7);
        due("MISSING", x.told(2), 1);
        due("NO_ROW", x.told(3), 1);
    }

    private static void spread() {
        sentence("10 spread");
        Bench x = weights(1, 2, 3, 4, 5, 6, 7, 8);
        due(x.spread(0, 8), 8);
        row(x, 0, 1, 2, 3, 4, 5, 6, 7, 8);
        due(x.spread(0, 3), 8);
        row(x, 0, 1, 2, 3, 1, 2, 3, 1, 2);
        due(x.spread(0, 1), 8);
        row(x, 0, 1, 1, 1, 1, 1, 1, 1, 1);
        due(x.spread(0, 0), PLACES);
        due(x.spread(0, 9), PLACES);
        due(x.spread(0, MIN), PLACES);
        x.fill(1, STONES, 2, 0, 0);
        due("of STONES", x.spread(1, 2), 3);
        row(x, 1, 1, 0, 1);
        x.lay(2, WEIGHTS, 0);
        due("of no places", x.spread(2, 0), PLACES);
        due("of no places", x.spread(2, 1), PLACES);
        due("EMPTY", x.spread(3, 0), MISSING);
        x.ticket(3, 1, 3);
        due("TICKET", x.spread(3, 0), NO_ROW);
        due("no such tray", x.spread(12, 1), BAD);
        due("no such tray", x.spread(-1, 1), BAD);
        due("well", x.told(1), 4);
        due("PLACES", x.told(5), 5);
    }

    private static void undo() {
        sentence("11 undo");
        Bench x = weights(1, 2, 3);
        due("put is none", x.undo(), MISSING);
        x.turn(0, 1);
        x.put(0, 0, 77);
        due("undo() of turn", x.undo(), 3);
        row(x, 0, 1, 2, 3);
        due("a second one", x.undo(), MISSING);
        x.spread(0, 1);
        x.open(0, 0, 1);
        x.undo();
        row(x, 0, 1, 1, 1);
        x.fill(0, WEIGHTS, 1, 2, 3);
        x.close(0, 0, 1);
        x.share(0, 4);
        x.lay(0, BEADS, 2);
        due("undo() of close, in another tray", x.undo(), 3);
        row(x, 4, 1, 2, 3);
        due("the tray's new row stays", x.tray(0, 0), BEADS);
        x.move(4, 0, 4, 1, 2);
        due("BAD is none", x.move(4, 0, 12, 0, 0), BAD);
        due("BAD is none", x.turn(-1, 0), BAD);
        due("BAD is none", x.spread(-1, 0), BAD);
        due("BAD is none", x.open(-1, 0, 0), BAD);
        due("BAD is none", x.close(-1, 0, 0), BAD);
        due("undo() behind BAD", x.undo(), 3);
        row(x, 4, 1, 2, 3);
        x.lay(5, WEIGHTS, 0);
        x.turn(5, 1);
        due("of no places", x.undo(), 0);
        x.turn(4, 1);
        x.ticket(4, 0, 0);
        due("in no tray at all", x.undo(), 3);
        x.fill(6, WEIGHTS, 1, 2, 3);
        x.fill(7, BUNDLES, 6, 12);
        x.turn(6, 1);
        x.undo();
        due("seen in a bundle", x.polished(7, 0), 6);
    }

    private static void undoRefused() {
        sentence("11 undo, refused");
        Bench x = weights(1, 2, 3);
        x.ticket(2, 1, 3);
        x.turn(0, 1);
        x.turn(1, 1);
        due("of EMPTY", x.undo(), MISSING);
        due("nor the one ahead of it", x.undo(), MISSING);
        x.turn(0, 1);
        x.spread(2, 1);
        due("of a TICKET", x.undo(), MISSING);
        x.move(0, 0, 1, 0, 1);
        due("into EMPTY", x.undo(), MISSING);
        x.move(0, 0, 2, 0, 1);
        due("into a TICKET", x.undo(), MISSING);
        x.fill(0, WEIGHTS, 1, 2, 3);
        int[] from = {1, 2, 3, 0};
        x.lay(3, PRICES, 1);
        for (int f : from) {
            due("refused from " + f, x.move(f, 9, 0, 0, 1) < 0, true);
            x.put(0, 1, 50);
            due("undo() of it", x.undo(), 3);
            row(x, 0, 1, 2, 3);
        }
        x.spread(0, 0);
        x.put(0, 2, 50);
        due("undo() of a refused spread", x.undo(), 3);
        row(x, 0, 1, 2, 3);
        x.fill(4, BEADS, 2, 2, 1);
        x.lay(5, STONES, 3);
        due("STOPPED", x.move(4, 0, 5, 0, 3), STOPPED);
        x.polish(4, 0, 8);
        due("undo() of a STOPPED one", x.undo(), 3);
        row(x, 5, 0, 0, 0);
        due("POLISH stays", x.polished(4, 0), 8);
        due("FILLED stays", x.told(0), 2);
        due("STOPPED stays told", x.told(6), 1);
    }

    private static void match() {
        sentence("12 match");
        Bench x = weights(1, 2, 3, 4);
        x.fill(1, WEIGHTS, 2, 3, 5);
        due(x.match(0, 1, 1, 0, 4), 2);
        due("at most n", x.match(0, 1, 1, 0, 1), 1);
        due("n 0", x.match(0, 1, 1, 0, 0), 0);
        due("none alike", x.match(0, 0, 1, 0, 4), 0);
        due("with itself, any n", x.match(0, 0, 0, 0, MAX), 4);
        due("as far as both go", x.match(0, 2, 1, 1, 9), 1);
        x.fill(6, WEIGHTS, 3, 4, 0);
        due("up to the end of the first", x.match(0, 2, 6, 0, 9), 2);
        due("up to the end of the second", x.match(6, 0, 0, 2, 9), 2);
        due("at both ends", x.match(0, 4, 1, 3, 1), 0);
        due("p too far", x.match(0, 5, 1, 0, 1), PLACES);
        due("q too far", x.match(0, 0, 1, 4, 1), PLACES);
        due("p below 0", x.match(0, -1, 1, 0, 1), PLACES);
        due("q below 0", x.match(0, 0, 1, -1, 1), PLACES);
        due("n below 0", x.match(0, 0, 1, 0, -1), PLACES);
        due("q MAX", x.match(0, 0, 1, MAX, MAX), PLACES);
        x.lay(2, PRICES, 3);
        x.ticket(3, 1, 1);
        x.lay(5, BEADS, 3);
        due("UNLIKE", x.match(0, -1, 2, 0, 1), UNLIKE);
        due("UNLIKE", x.match(5, 0, 0, 0, 1), UNLIKE);
        due("NO_ROW", x.match(0, 0, 3, 0, 1), NO_ROW);
        due("MISSING", x.match(3, 0, 4, 0, 1), MISSING);
        due("BAD", x.match(12, 0, 0, 0, 1), BAD);
        due("BAD", x.match(0, 0, -1, 0, 1), BAD);
        x.fill(5, BEADS, 0, 2, 2);
        x.lay(6, STONES, 3);
        x.move(5, 0, 6, 0, 2);
        x.put(6, 2, 2);
        due("NOTHING and the same STONE, not a like one", x.match(5, 0, 6, 0, 3), 2);
        x.fill(7, WEIGHTS, 1);
        x.fill(8, WEIGHTS, 1);
        x.fill(9, BUNDLES, 12, 7, 7);
        x.fill(10, BUNDLES, 12, 7, 8);
        due("the same row, not a like one", x.match(9, 0, 10, 0, 3), 2);
        due("NOTHING of BUNDLES and BEADS", x.match(9, 0, 5, 0, 3), 1);
        due("match is not told", x.told(1), 1);
        due("nor its refusals", x.told(5), 0);
    }

    private static void polish() {
        sentence("13 polish");
        Bench x = new Bench();
        x.fill(0, BEADS, 1, 3, 0);
        due(x.polish(0, 1, MAX), 2);
        due(x.polish(0, 1, 2), 2);
        due("going round", x.polished(0, 1), MIN + 1);
        due("the other piece", x.polished(0, 0), 0);
        due(x.polish(0, 0, -3), 1);
        due("below 0", x.polished(0, 0), -3);
        due("NOTHING", x.polish(0, 2, 1), MISSING);
        due("PLACES", x.polish(0, 3, 1), PLACES);
        due("PLACES", x.polish(0, -1, 1), PLACES);
        x.lay(1, LENGTHS, 1);
        due("NUMBERS", x.polish(1, 9, 1), UNLIKE);
        x.lay(1, BUNDLES, 1);
        due("BUNDLES", x.polish(1, 9, 1), UNLIKE);
        due("EMPTY", x.polish(2, 0, 1), MISSING);
        x.ticket(2, 1, 1);
        due("TICKET", x.polish(2, 0, 1), NO_ROW);
        due("BAD", x.polish(12, 0, 1), BAD);
        due("BAD", x.polish(-1, 0, 1), BAD);
        x.fill(3, STONES, 2);
        due("of STONES", x.polish(3, 0, 4), 3);
        due("of STONES", x.polished(3, 0), 4);
        x.fill(4, PEARLS, 4);
        due("of PEARLS", x.polish(4, 0, 4), 4);
    }

    private static void tray() {
        sentence("14 tray");
        Bench x = weights(1, 2, 3);
        x.ticket(1, 1, -6);
        due("kind of a row", x.tray(0, 0), WEIGHTS);
        due("places of a row", x.tray(0, 1), 3);
        due("TICKET", x.tray(1, 0), 1);
        due("number of a TICKET", x.tray(1, 1), -6);
        due("EMPTY", x.tray(11, 0), 0);
        due("places of EMPTY", x.tray(11, 1), 0);
        due(x.tray(0, 2), BAD);
        due(x.tray(0, -1), BAD);
        due(x.tray(12, 0), BAD);
        due(x.tray(-1, 1), BAD);
    }

    private static void what() {
        sentence("15 what");
        Bench x = weights(1);
        x.fill(1, BEADS, 0, 1, 2, 3, 4);
        x.fill(2, BUNDLES, 0, 12);
        x.ticket(3, 1, 1);
        due("a NUMBER", x.what(0, 0), 1);
        due("NOTHING", x.what(1, 0), 0);
        due("PLAIN", x.what(1, 1), 2);
        due("a STONE", x.what(1, 2), 3);
        due("a PEARL", x.what(1, 3), 4);
        due("a BLACK PEARL", x.what(1, 4), 5);
        due("a row", x.what(2, 0), 6);
        due("NOTHING in BUNDLES", x.what(2, 1), 0);
        due("BAD", x.what(12, 0), BAD);
        due("BAD", x.what(-1, 0), BAD);
        due("MISSING", x.what(4, -1), MISSING);
        due("NO_ROW", x.what(3, -1), NO_ROW);
        due("PLACES", x.what(0, 1), PLACES);
        due("PLACES", x.what(0, -1), PLACES);
    }

    private static void at() {
        sentence("16 at");
        Bench x = weights(-9, 4);
        x.fill(1, BEADS, 1, 0, 4);
        x.fill(2, BUNDLES, 0, 12);
        x.ticket(3, 1, 5);
        row(x, 0, -9, 4);
        row(x, 1, 1, 0, 2);
        row(x, 2, 2, 0);
        due("BAD", x.at(12, 0), 0);
        due("BAD", x.at(-1, 0), 0);
        due("MISSING", x.at(4, 0), 0);
        due("NO_ROW", x.at(3, 0), 0);
        due("PLACES", x.at(0, 2), 0);
        due("PLACES", x.at(0, -1), 0);
    }

    private static void polished() {
        sentence("17 polished");
        Bench x = weights(MAX, 1, 5);
        x.fill(1, BEADS, 1, 0);
        x.polish(1, 0, 6);
        x.lay(5, WEIGHTS, 0);
        x.fill(2, BUNDLES, 0, 12, 5);
        x.ticket(3, 1, 5);
        due("a piece", x.polished(1, 0), 6);
        due("NOTHING", x.polished(1, 1), 0);
        due("a NUMBER", x.polished(0, 1), 0);
        due("a row, going round", x.polished(2, 0), MIN + 5);
        due("NOTHING in BUNDLES", x.polished(2, 1), 0);
        due("a row of no places", x.polished(2, 2), 0);
        due("BAD", x.polished(12, 0), 0);
        due("BAD", x.polished(-1, 0), 0);
        due("MISSING", x.polished(4, 0), 0);
        due("NO_ROW", x.polished(3, 0), 0);
        due("PLACES", x.polished(1, 2), 0);
        due("PLACES", x.polished(1, -1), 0);
    }

    private static void told() {
        sentence("18 told");
        Bench x = weights(1, 2, 3);
        x.ticket(1, 1, 1);
        x.lay(3, PRICES, 3);
        x.fill(4, BEADS, 3, 2, 1);
        x.lay(5, PEARLS, 3);
        x.move(0, 0, 0, 1, 2);
        due("FILLED", x.told(0), 2);
        x.turn(0, 1);
        x.spread(0, 1);
        x.spread(0, 9);
        x.match(0, 0, 0, 0, 3);
        x.move(12, 0, 0, 0, 1);
        x.open(12, 0, 0);
        x.close(12, 0, 0);
        x.undo();
        due("FILLED stays", x.told(0), 2);
        due("STOPPED", x.move(4, 0, 5, 0, 3), STOPPED);
        due("FILLED of a STOPPED one", x.told(0), 1);
        x.move(4, 0, 5, 0, 3);
        x.move(0, 0, 3, 0, 1);
        due("FILLED of a refused one", x.told(0), 0);
        x.move(3, 0, 0, 0, 1);
        x.move(0, 0, 4, 0, 1);
        x.close(1, 0, 0);
        x.turn(1, 0);
        x.spread(1, 0);
        x.open(1, 0, 0);
        x.open(2, 0, 0);
        x.turn(2, 0);
        x.spread(2, 0);
        x.close(2, 0, 0);
        x.move(2, 0, 0, 0, 0);
        due("well", x.told(1), 3);
        due("MISSING", x.told(2), 5);
        due("NO_ROW", x.told(3), 4);
        due("UNLIKE", x.told(4), 3);
        due("PLACES", x.told(5), 1);
        due("STOPPED", x.told(6), 2);
        due("pieces made", x.told(7), 3);
        due(x.told(8), BAD);
        due(x.told(-1), BAD);
        due(x.told(MIN), BAD);
        due(x.told(MAX), BAD);
    }

    public static void main(String[] args) {
        newObject();
        lay();
        ticket();
        share();
        putNumbers();
        putPieces();
        putRows();
        moveRefused();
        moveWell();
        moveThings();
        open();
        close();
        turn();
        spread();
        undo();
        undoRefused();
        match();
        polish();
        tray();
        what();
        at();
        polished();
        told();
        end();
    }
}
