/** One method for each promise of the document: ordinary inputs, the edges it names, and wrong inputs. */
public final class BeadBenchPromises {
    private static final int MISSING = BeadBench.MISSING, NO_ROW = BeadBench.NO_ROW, UNLIKE = BeadBench.UNLIKE;
    private static final int PLACES = BeadBench.PLACES, STOPPED = BeadBench.STOPPED, BAD = BeadBench.BAD;
    private static final int NOTCHES = 2, TINTS = 3, LETTERS = 4, STEPS = 5, WEIGHTS = 6, PRICES = 7, SIZES = 8;
    private static final int LENGTHS = 9, BEADS = 10, STONES = 11, PEARLS = 12, BUNDLES = 13;
    private static final int MIN = Integer.MIN_VALUE, MAX = Integer.MAX_VALUE;

    private static int wrong = 0;
    private static String promise = "";

    private static void due(String call, long got, long want) {
        if (got != want) {
            wrong++;
            System.out.println(promise + ": " + call + " answered " + got + ", due is " + want);
        }
    }

    private static void due(String call, boolean got, boolean want) {
        due(call, got ? 1 : 0, want ? 1 : 0);
    }

    /** The numbers that at() tells of a tray's row. */
    private static void row(String call, BeadBench x, int tray, long... want) {
        due(call + ": places", x.tray(tray, 1), want.length);
        for (int i = 0; i < want.length; i++) {
            due(call + ": at(" + tray + ", " + i + ")", x.at(tray, i), want[i]);
        }
    }

    private static void fill(BeadBench x, int tray, int kind, int... values) {
        x.lay(tray, kind, values.length);
        for (int i = 0; i < values.length; i++) {
            x.put(tray, i, values[i]);
        }
    }

    private static BeadBench weights(int... values) {
        BeadBench x = new BeadBench();
        fill(x, 0, WEIGHTS, values);
        return x;
    }

    private static void newObject() {
        promise = "1 a new object";
        BeadBench x = new BeadBench();
        for (int t = 0; t < 12; t++) {
            due("tray(" + t + ", 0)", x.tray(t, 0), 0);
            due("tray(" + t + ", 1)", x.tray(t, 1), 0);
            due("what(" + t + ", 0)", x.what(t, 0), MISSING);
        }
        for (int w = 0; w < 8; w++) {
            due("told(" + w + ")", x.told(w), 0);
        }
        due("undo()", x.undo(), MISSING);
        BeadBench y = weights(1);
        due("another object's tray", x.tray(0, 0), 0);
        due("its own tray", y.tray(0, 0), WEIGHTS);
    }

    private static void lay() {
        promise = "2 lay";
        BeadBench x = new BeadBench();
        for (int kind = 2; kind <= 13; kind++) {
            due("lay(11, " + kind + ", 64)", x.lay(11, kind, 64), 64);
            due("kind", x.tray(11, 0), kind);
            due("places", x.tray(11, 1), 64);
            due("first place", x.what(11, 0), kind <= LENGTHS ? 1 : 0);
            due("last place", x.what(11, 63), kind <= LENGTHS ? 1 : 0);
            due("at the last place", x.at(11, 63), 0);
        }
        due("lay(0, 6, 0)", x.lay(0, WEIGHTS, 0), 0);
        due("a row of no places", x.tray(0, 0), WEIGHTS);
        due("lay(0, 6, 65)", x.lay(0, WEIGHTS, 65), BAD);
        due("lay(0, 6, -1)", x.lay(0, WEIGHTS, -1), BAD);
        due("lay(0, 1, 1)", x.lay(0, 1, 1), BAD);
        due("lay(0, 0, 1)", x.lay(0, 0, 1), BAD);
        due("lay(0, 14, 1)", x.lay(0, 14, 1), BAD);
        due("lay(12, 6, 1)", x.lay(12, WEIGHTS, 1), BAD);
        due("lay(-1, 6, 1)", x.lay(-1, WEIGHTS, 1), BAD);
        due("lay(MIN, MIN, MIN)", x.lay(MIN, MIN, MIN), BAD);
        due("lay(0, 6, MAX)", x.lay(0, WEIGHTS, MAX), BAD);
        due("what BAD left", x.tray(0, 1), 0);
        fill(x, 1, WEIGHTS, 4, 5);
        x.share(1, 2);
        x.lay(1, WEIGHTS, 2);
        row("a new row", x, 1, 0, 0);
        row("the old row", x, 2, 4, 5);
    }

    private static void ticket() {
        promise = "3 ticket";
        BeadBench x = weights(1, 2);
        due("ticket(0, 1, -7)", x.ticket(0, 1, -7), true);
        due("tray(0, 0)", x.tray(0, 0), 1);
        due("tray(0, 1)", x.tray(0, 1), -7);
        due("ticket(0, 2, 5)", x.ticket(0, 2, 5), false);
        due("ticket(0, -1, 5)", x.ticket(0, -1, 5), false);
        due("ticket(12, 1, 5)", x.ticket(12, 1, 5), false);
        due("ticket(-1, 0, 5)", x.ticket(-1, 0, 5), false);
        due("what false left", x.tray(0, 1), -7);
        due("ticket(0, 0, 9)", x.ticket(0, 0, 9), true);
        due("EMPTY", x.tray(0, 0), 0);
        due("EMPTY has no number", x.tray(0, 1), 0);
        due("ticket(11, 1, MIN)", x.ticket(11, 1, MIN), true);
        due("tray(11, 1)", x.tray(11, 1), MIN);
    }

    private static void share() {
        promise = "4 share";
        BeadBench x = weights(1, 2);
        due("share(0, 11)", x.share(0, 11), WEIGHTS);
        x.put(11, 1, 9);
        row("put into the other tray", x, 0, 1, 9);
        due("share(0, 0)", x.share(0, 0), WEIGHTS);
        row("shared with itself", x, 0, 1, 9);
        x.ticket(1, 1, 33);
        due("share(1, 2)", x.share(1, 2), 1);
        due("the same TICKET", x.tray(2, 1), 33);
        x.ticket(1, 1, 34);
        due("a TICKET of its own", x.tray(2, 1), 33);
        due("share(5, 0)", x.share(5, 0), 0);
        due("EMPTY", x.tray(0, 0), 0);
        row("the tray that still has it", x, 11, 1, 9);
        due("share(12, 0)", x.share(12, 0), BAD);
        due("share(0, 12)", x.share(0, 12), BAD);
        due("share(-1, 0)", x.share(-1, 0), BAD);
        due("share(0, -1)", x.share(0, -1), BAD);
    }

    private static void putNumber(int kind, int v, long want) {
        BeadBench x = new BeadBench();
        x.lay(3, kind, 2);
        due("put(3, 1, " + v + ") of kind " + kind, x.put(3, 1, v), 1);
        due("what", x.what(3, 1), 1);
        due("at, kind " + kind + ", v " + v, x.at(3, 1), want);
        due("the other place", x.at(3, 0), 0);
        due("pieces", x.told(7), 0);
    }

    private static void putNumbers() {
        promise = "5 put, NUMBERS";
        putNumber(NOTCHES, 0, 0);
        putNumber(NOTCHES, 1, 1);
        putNumber(NOTCHES, 2, 1);
        putNumber(NOTCHES, -256, 1);
        putNumber(TINTS, 127, 127);
        putNumber(TINTS, 128, -128);
        putNumber(TINTS, -129, 127);
        putNumber(TINTS, 511, -1);
        putNumber(LETTERS, 65535, 65535);
        putNumber(LETTERS, 65536, 0);
        putNumber(LETTERS, -1, 65535);
        putNumber(STEPS, 32767, 32767);
        putNumber(STEPS, 32768, -32768);
        putNumber(STEPS, -32769, 32767);
        putNumber(WEIGHTS, MIN, MIN);
        putNumber(WEIGHTS, MAX, MAX);
        putNumber(PRICES, MIN, MIN);
        putNumber(PRICES, MAX, MAX);
        putNumber(SIZES, 16777216, 16777216);
        putNumber(SIZES, 16777217, 16777216);
        putNumber(SIZES, 16777219, 16777220);
        putNumber(SIZES, -16777217, -16777216);
        putNumber(SIZES, MAX, 2147483648L);
        putNumber(SIZES, MIN, MIN);
        putNumber(LENGTHS, 16777217, 16777217);
        putNumber(LENGTHS, MAX, MAX);
        putNumber(LENGTHS, MIN, MIN);
    }

    private static void putPieces() {
        promise = "5 put, pieces";
        BeadBench x = new BeadBench();
        x.lay(0, BEADS, 6);
        for (int v = 0; v < 5; v++) {
            due("put(0, " + v + ", " + v + ")", x.put(0, v, v), 1);
            due("what(0, " + v + ")", x.what(0, v), v == 0 ? 0 : v + 1);
        }
        row("numbers as they are made", x, 0, 0, 1, 2, 3, 4, 0);
        due("put(0, 5, -1)", x.put(0, 5, -1), 1);
        due("-1 modulo 5 is a BLACK PEARL", x.what(0, 5), 5);
        due("put(0, 5, MIN)", x.put(0, 5, MIN), 1);
        due("MIN modulo 5 is a STONE", x.what(0, 5), 3);
        due("put(0, 5, -5)", x.put(0, 5, -5), 1);
        due("NOTHING again", x.what(0, 5), 0);
        due("pieces", x.told(7), 6);
        due("no such place", x.put(0, 6, 2), PLACES);
        due("no such place", x.put(0, -1, 0), PLACES);
        due("made all the same, but not of 0", x.told(7), 7);
        int[][] fits = {{1, UNLIKE, UNLIKE}, {2, 1, UNLIKE}, {3, UNLIKE, 1}, {4, UNLIKE, 1}, {5, 1, 1}};
        for (int[] f : fits) {
            x.lay(1, STONES, 1);
            x.lay(2, PEARLS, 1);
            due("STONES get " + f[0], x.put(1, 0, f[0]), f[1]);
            due("PEARLS get " + f[0], x.put(2, 0, f[0]), f[2]);
            due("what STONES have", x.what(1, 0), f[1] == 1 && f[0] < 5 ? f[0] + 1 : 0);
            due("what PEARLS have", x.what(2, 0), f[2] == 1 && f[0] < 5 ? f[0] + 1 : 0);
        }
        due("UNLIKE ones are made too", x.told(7), 15);
        x.lay(1, STONES, 1);
        x.put(1, 0, 2);
        due("PLACES ahead of UNLIKE", x.put(1, 1, 3), PLACES);
        due("UNLIKE", x.put(1, 0, 3), UNLIKE);
        due("what was there stays", x.at(1, 0), 16);
        due("the latest number", x.told(7), 18);
    }

    private static void putRows() {
        promise = "5 put, BUNDLES and refusals";
        BeadBench x = weights(7, 8, 9);
        x.lay(1, BUNDLES, 2);
        due("put(1, 0, 0)", x.put(1, 0, 0), 1);
        due("a row", x.what(1, 0), 6);
        due("its places", x.at(1, 0), 3);
        x.put(0, 0, 10);
        due("its sum, seen through the bundle", x.polished(1, 0), 27);
        x.ticket(0, 0, 0);
        due("it stays when its tray has it no more", x.at(1, 0), 3);
        x.lay(2, PRICES, 1);
        x.ticket(3, 1, 6);
        int[] without = {1, 2, 3, 4, 12, -1, MIN, MAX};
        for (int v : without) {
            x.lay(5, WEIGHTS, 1);
            x.put(1, 1, 5);
            due("put(1, 1, " + v + ")", x.put(1, 1, v), 1);
            due("NOTHING of " + v, x.what(1, 1), 0);
        }
        due("put(1, 2, 5)", x.put(1, 2, 5), PLACES);
        due("pieces", x.told(7), 0);
        due("put(12, 0, 1)", x.put(12, 0, 1), BAD);
        due("put(-1, 0, 1)", x.put(-1, 0, 1), BAD);
        due("put(4, 0, 1)", x.put(4, 0, 1), MISSING);
        due("put(3, 0, 1)", x.put(3, 0, 1), NO_ROW);
        due("put(2, 1, 1)", x.put(2, 1, 1), PLACES);
        due("put(2, -1, 1)", x.put(2, -1, 1), PLACES);
        due("put(2, MIN, 1)", x.put(2, MIN, 1), PLACES);
        for (int w = 1; w < 7; w++) {
            due("put is not told", x.told(w), 0);
        }
    }

    private static void moveRefused() {
        promise = "6 move, refused";
        BeadBench x = weights(1, 2, 3, 4);
        x.ticket(1, 1, 5);
        x.lay(3, PRICES, 4);
        x.lay(4, BEADS, 4);
        x.lay(5, WEIGHTS, 3);
        due("TICKET to EMPTY", x.move(1, 0, 2, 0, 1), MISSING);
        due("EMPTY to TICKET", x.move(2, 0, 1, 0, 1), MISSING);
        due("row to EMPTY", x.move(0, -1, 2, 0, 1), MISSING);
        due("TICKET to row", x.move(1, 0, 0, -1, 0), NO_ROW);
        due("row to TICKET", x.move(0, 0, 1, 0, 0), NO_ROW);
        due("WEIGHTS to PRICES", x.move(0, 0, 3, 0, 0), UNLIKE);
        due("WEIGHTS to BEADS", x.move(0, -1, 4, 0, 0), UNLIKE);
        due("BEADS to WEIGHTS", x.move(4, 0, 0, 0, 0), UNLIKE);
        due("p below 0", x.move(0, -1, 5, 0, 1), PLACES);
        due("q below 0", x.move(0, 0, 5, -1, 1), PLACES);
        due("n below 0", x.move(0, 2, 5, 2, -1), PLACES);
        due("p + n too far", x.move(0, 3, 5, 0, 2), PLACES);
        due("q + n too far", x.move(0, 0, 5, 2, 2), PLACES);
        due("p too far, n 0", x.move(0, 5, 5, 0, 0), PLACES);
        due("q too far, n 0", x.move(0, 0, 5, 4, 0), PLACES);
        due("p + n would go round", x.move(0, MAX, 5, 0, MAX), PLACES);
        due("q + n would go round", x.move(0, 0, 5, MAX, 1), PLACES);
        due("no such tray", x.move(12, 0, 0, 0, 0), BAD);
        due("no such tray", x.move(0, 0, 12, 0, 0), BAD);
        due("no such tray", x.move(-1, 0, 0, 0, 0), BAD);
        due("no such tray", x.move(0, 0, -1, 0, 0), BAD);
        due("all places and none", x.move(0, 4, 5, 3, 0), 0);
        row("nothing came", x, 5, 0, 0, 0);
    }

    private static void moveWell() {
        promise = "6 move";
        BeadBench x = weights(1, 2, 3, 4);
        x.lay(1, WEIGHTS, 4);
        due("whole", x.move(0, 0, 1, 0, 4), 4);
        row("whole", x, 1, 1, 2, 3, 4);
        due("forward in one row", x.move(0, 0, 0, 1, 3), 3);
        row("forward in one row", x, 0, 1, 1, 2, 3);
        x.share(1, 2);
        due("back, through two trays of one row", x.move(1, 1, 2, 0, 3), 3);
        row("back", x, 1, 2, 3, 4, 4);
        due("forward, through two trays of one row", x.move(2, 0, 1, 2, 2), 2);
        row("forward", x, 2, 2, 3, 2, 3);
        for (int kind = NOTCHES; kind <= LENGTHS; kind++) {
            fill(x, 3, kind, 1, 0, 1);
            x.lay(4, kind, 2);
            due("kind " + kind, x.move(3, 1, 4, 0, 2), 2);
            row("kind " + kind, x, 4, 0, 1);
        }
    }

    private static void moveThings() {
        promise = "6 move, THINGS";
        BeadBench x = new BeadBench();
        fill(x, 0, BEADS, 2, 0, 2, 3, 2);
        x.lay(1, STONES, 5);
        x.put(1, 1, 2);
        x.put(1, 4, 2);
        due("STOPPED at the PEARL", x.move(0, 0, 1, 0, 5), STOPPED);
        due("FILLED", x.told(0), 3);
        row("what came ahead of it stays", x, 1, 1, 0, 2, 0, 6);
        due("STONES into BEADS", x.move(1, 0, 0, 2, 3), 3);
        row("STONES into BEADS", x, 0, 1, 0, 1, 0, 2);
        fill(x, 2, PEARLS, 3, 4);
        x.lay(3, BEADS, 2);
        due("PEARLS into BEADS", x.move(2, 0, 3, 0, 2), 2);
        due("BEADS into PEARLS", x.move(3, 0, 2, 0, 2), 2);
        due("PEARL", x.what(2, 0), 4);
        due("BLACK PEARL", x.what(2, 1), 5);
        x.polish(3, 0, 5);
        due("the same piece in both", x.polished(2, 0), 5);
        due("PEARLS into STONES", x.move(2, 0, 1, 0, 1), STOPPED);
        due("FILLED", x.told(0), 0);
        x.lay(4, STONES, 2);
        due("NOTHING goes anywhere", x.move(4, 0, 2, 0, 2), 2);
        due("NOTHING", x.what(2, 1), 0);
        fill(x, 5, WEIGHTS, 1);
        fill(x, 6, BUNDLES, 12, 5);
        due("BUNDLES into BEADS", x.move(6, 0, 3, 0, 2), STOPPED);
        due("FILLED", x.told(0), 1);
        due("NOTHING came", x.what(3, 0), 0);
        due("BUNDLES into BUNDLES", x.move(6, 1, 6, 0, 1), 1);
        due("a row came", x.what(6, 0), 6);
        due("pieces into BUNDLES", x.move(0, 0, 6, 0, 1), STOPPED);
        due("NOTHING into BUNDLES", x.move(0, 1, 6, 0, 1), 1);
        due("NOTHING", x.what(6, 0), 0);
        due("WEIGHTS into BUNDLES", x.move(5, 0, 6, 0, 1), UNLIKE);
        fill(x, 7, BEADS, 1, 4);
        x.lay(8, PEARLS, 2);
        due("PLAIN into PEARLS", x.move(7, 0, 8, 0, 2), STOPPED);
        due("what is behind it doesn't come", x.what(8, 1), 0);
    }

    private static void open() {
        promise = "7 open";
        BeadBench x = weights(1, 2, 3, 4, 5);
        due("open(0, 1, 2)", x.open(0, 1, 2), 2);
        row("open(0, 1, 2)", x, 0, 1, 2, 3, 2, 3);
        due("FILLED", x.told(0), 2);
        due("open(0, 0, 5)", x.open(0, 0, 5), 0);
        due("open(0, 5, 0)", x.open(0, 5, 0), 0);
        due("open(0, 2, 0)", x.open(0, 2, 0), 3);
        due("open(0, 5, 1)", x.open(0, 5, 1), PLACES);
        due("open(0, -1, 1)", x.open(0, -1, 1), PLACES);
        due("open(0, 2, -1)", x.open(0, 2, -1), PLACES);
        due("open(0, MAX, 1)", x.open(0, MAX, 1), PLACES);
        due("open(0, MAX, MAX)", x.open(0, MAX, MAX), PLACES);
        due("open(0, MIN, MIN)", x.open(0, MIN, MIN), PLACES);
        row("what PLACES left", x, 0, 1, 2, 3, 2, 3);
        due("open(12, 0, 0)", x.open(12, 0, 0), BAD);
        due("open(-1, 0, 0)", x.open(-1, 0, 0), BAD);
        due("EMPTY", x.open(1, 0, 0), MISSING);
        x.ticket(1, 1, 4);
        due("TICKET", x.open(1, 0, 0), NO_ROW);
        due("well", x.told(1), 4);
        due("PLACES", x.told(5), 6);
        fill(x, 2, PEARLS, 3, 4, 0);
        due("of PEARLS", x.open(2, 0, 1), 2);
        row("of PEARLS", x, 2, 1, 1, 2);
        x.lay(3, BEADS, 0);
        due("of no places", x.open(3, 0, 0), 0);
    }

    private static void close() {
        promise = "8 close";
        BeadBench x = weights(1, 2, 3, 4, 5);
        due("close(0, 1, 2)", x.close(0, 1, 2), 2);
        row("close(0, 1, 2)", x, 0, 1, 4, 5, 4, 5);
        due("FILLED", x.told(0), 2);
        due("close(0, 0, 1)", x.close(0, 0, 1), 4);
        row("close(0, 0, 1)", x, 0, 4, 5, 4, 5, 5);
        due("close(0, 0, 5)", x.close(0, 0, 5), 0);
        due("close(0, 5, 0)", x.close(0, 5, 0), 0);
        due("close(0, 5, 1)", x.close(0, 5, 1), PLACES);
        due("close(0, -1, 1)", x.close(0, -1, 1), PLACES);
        due("close(0, 2, -1)", x.close(0, 2, -1), PLACES);
        due("close(0, MAX, MAX)", x.close(0, MAX, MAX), PLACES);
        due("close(0, MIN, MIN)", x.close(0, MIN, MIN), PLACES);
        due("close(12, 0, 0)", x.close(12, 0, 0), BAD);
        due("close(-1, 0, 0)", x.close(-1, 0, 0), BAD);
        due("EMPTY", x.close(1, 0, 0), MISSING);
        x.ticket(1, 1, 4);
        due("TICKET", x.close(1, 0, 0), NO_ROW);
        due("well", x.told(1), 4);
        due("PLACES", x.told(5), 5);
    }

    private static void turn() {
        promise = "9 turn";
        BeadBench x = weights(1, 2, 3, 4, 5);
        due("turn(0, 2)", x.turn(0, 2), 5);
        row("turn(0, 2)", x, 0, 3, 4, 5, 1, 2);
        due("turn(0, -2)", x.turn(0, -2), 5);
        row("turn(0, -2)", x, 0, 1, 2, 3, 4, 5);
        due("turn(0, 5)", x.turn(0, 5), 5);
        row("turn(0, 5)", x, 0, 1, 2, 3, 4, 5);
        due("turn(0, MAX)", x.turn(0, MAX), 5);
        row("turn(0, MAX), 2 round 5", x, 0, 3, 4, 5, 1, 2);
        due("turn(0, MIN)", x.turn(0, MIN), 5);
        row("turn(0, MIN), 2 round 5", x, 0, 5, 1, 2, 3, 4);
        fill(x, 1, BEADS, 1, 0, 2);
        due("of BEADS", x.turn(1, 1), 3);
        row("of BEADS", x, 1, 0, 2, 1);
        x.lay(2, BUNDLES, 0);
        due("of no places", x.turn(2, 3), 0);
        due("EMPTY", x.turn(3, 0), MISSING);
        x.ticket(3, 1, 3);
        due("TICKET", x.turn(3, 0), NO_ROW);
        due("no such tray", x.turn(12, 0), BAD);
        due("no such tray", x.turn(-1, 0), BAD);
        due("well", x.told(1), 7);
        due("MISSING", x.told(2), 1);
        due("NO_ROW", x.told(3), 1);
    }

    private static void spread() {
        promise = "10 spread";
        BeadBench x = weights(1, 2, 3, 4, 5, 6, 7, 8);
        due("spread(0, 8)", x.spread(0, 8), 8);
        row("spread(0, 8)", x, 0, 1, 2, 3, 4, 5, 6, 7, 8);
        due("spread(0, 3)", x.spread(0, 3), 8);
        row("spread(0, 3)", x, 0, 1, 2, 3, 1, 2, 3, 1, 2);
        due("spread(0, 1)", x.spread(0, 1), 8);
        row("spread(0, 1)", x, 0, 1, 1, 1, 1, 1, 1, 1, 1);
        due("spread(0, 0)", x.spread(0, 0), PLACES);
        due("spread(0, 9)", x.spread(0, 9), PLACES);
        due("spread(0, MIN)", x.spread(0, MIN), PLACES);
        fill(x, 1, STONES, 2, 0, 0);
        due("of STONES", x.spread(1, 2), 3);
        row("of STONES", x, 1, 1, 0, 1);
        x.lay(2, WEIGHTS, 0);
        due("of no places", x.spread(2, 0), PLACES);
        due("of no places", x.spread(2, 1), PLACES);
        due("EMPTY", x.spread(3, 0), MISSING);
        x.ticket(3, 1, 3);
        due("TICKET", x.spread(3, 0), NO_ROW);
        due("no such tray", x.spread(12, 1), BAD);
        due("no such tray", x.spread(-1, 1), BAD);
        due("well", x.told(1), 4);
        due("PLACES", x.told(5), 5);
    }

    private static void undo() {
        promise = "11 undo";
        BeadBench x = weights(1, 2, 3);
        due("put is none", x.undo(), MISSING);
        x.turn(0, 1);
        x.put(0, 0, 77);
        due("undo() of turn", x.undo(), 3);
        row("undo() of turn", x, 0, 1, 2, 3);
        due("a second one", x.undo(), MISSING);
        x.spread(0, 1);
        x.open(0, 0, 1);
        x.undo();
        row("the latest alone", x, 0, 1, 1, 1);
        fill(x, 0, WEIGHTS, 1, 2, 3);
        x.close(0, 0, 1);
        x.share(0, 4);
        x.lay(0, BEADS, 2);
        due("undo() of close, in another tray", x.undo(), 3);
        row("undo() of close", x, 4, 1, 2, 3);
        due("the tray's new row stays", x.tray(0, 0), BEADS);
        x.move(4, 0, 4, 1, 2);
        due("BAD is none", x.move(4, 0, 12, 0, 0), BAD);
        due("BAD is none", x.turn(-1, 0), BAD);
        due("BAD is none", x.spread(-1, 0), BAD);
        due("BAD is none", x.open(-1, 0, 0), BAD);
        due("BAD is none", x.close(-1, 0, 0), BAD);
        due("undo() behind BAD", x.undo(), 3);
        row("undo() behind BAD", x, 4, 1, 2, 3);
        x.lay(5, WEIGHTS, 0);
        x.turn(5, 1);
        due("of no places", x.undo(), 0);
        x.turn(4, 1);
        x.ticket(4, 0, 0);
        due("in no tray at all", x.undo(), 3);
        fill(x, 6, WEIGHTS, 1, 2, 3);
        fill(x, 7, BUNDLES, 6, 12);
        x.turn(6, 1);
        x.undo();
        due("seen in a bundle", x.polished(7, 0), 6);
    }

    private static void undoRefused() {
        promise = "11 undo, refused";
        BeadBench x = weights(1, 2, 3);
        x.ticket(2, 1, 3);
        x.turn(0, 1);
        x.turn(1, 1);
        due("of EMPTY", x.undo(), MISSING);
        due("nor the one ahead of it", x.undo(), MISSING);
        x.turn(0, 1);
        x.spread(2, 1);
        due("of a TICKET", x.undo(), MISSING);
        x.move(0, 0, 1, 0, 1);
        due("into EMPTY", x.undo(), MISSING);
        x.move(0, 0, 2, 0, 1);
        due("into a TICKET", x.undo(), MISSING);
        fill(x, 0, WEIGHTS, 1, 2, 3);
        int[] from = {1, 2, 3, 0};
        x.lay(3, PRICES, 1);
        for (int f : from) {
            due("refused from " + f, x.move(f, 9, 0, 0, 1) < 0, true);
            x.put(0, 1, 50);
            due("undo() of it", x.undo(), 3);
            row("what was put since is taken back", x, 0, 1, 2, 3);
        }
        x.spread(0, 0);
        x.put(0, 2, 50);
        due("undo() of a refused spread", x.undo(), 3);
        row("undo() of a refused spread", x, 0, 1, 2, 3);
        fill(x, 4, BEADS, 2, 2, 1);
        x.lay(5, STONES, 3);
        due("STOPPED", x.move(4, 0, 5, 0, 3), STOPPED);
        x.polish(4, 0, 8);
        due("undo() of a STOPPED one", x.undo(), 3);
        row("undo() of a STOPPED one", x, 5, 0, 0, 0);
        due("POLISH stays", x.polished(4, 0), 8);
        due("FILLED stays", x.told(0), 2);
        due("STOPPED stays told", x.told(6), 1);
    }

    private static void match() {
        promise = "12 match";
        BeadBench x = weights(1, 2, 3, 4);
        fill(x, 1, WEIGHTS, 2, 3, 5);
        due("match(0, 1, 1, 0, 4)", x.match(0, 1, 1, 0, 4), 2);
        due("at most n", x.match(0, 1, 1, 0, 1), 1);
        due("n 0", x.match(0, 1, 1, 0, 0), 0);
        due("none alike", x.match(0, 0, 1, 0, 4), 0);
        due("with itself, any n", x.match(0, 0, 0, 0, MAX), 4);
        due("as far as both go", x.match(0, 2, 1, 1, 9), 1);
        fill(x, 6, WEIGHTS, 3, 4, 0);
        due("up to the end of the first", x.match(0, 2, 6, 0, 9), 2);
        due("up to the end of the second", x.match(6, 0, 0, 2, 9), 2);
        due("at both ends", x.match(0, 4, 1, 3, 1), 0);
        due("p too far", x.match(0, 5, 1, 0, 1), PLACES);
        due("q too far", x.match(0, 0, 1, 4, 1), PLACES);
        due("p below 0", x.match(0, -1, 1, 0, 1), PLACES);
        due("q below 0", x.match(0, 0, 1, -1, 1), PLACES);
        due("n below 0", x.match(0, 0, 1, 0, -1), PLACES);
        due("q MAX", x.match(0, 0, 1, MAX, MAX), PLACES);
        x.lay(2, PRICES, 3);
        x.ticket(3, 1, 1);
        x.lay(5, BEADS, 3);
        due("UNLIKE", x.match(0, -1, 2, 0, 1), UNLIKE);
        due("UNLIKE", x.match(5, 0, 0, 0, 1), UNLIKE);
        due("NO_ROW", x.match(0, 0, 3, 0, 1), NO_ROW);
        due("MISSING", x.match(3, 0, 4, 0, 1), MISSING);
        due("BAD", x.match(12, 0, 0, 0, 1), BAD);
        due("BAD", x.match(0, 0, -1, 0, 1), BAD);
        fill(x, 5, BEADS, 0, 2, 2);
        x.lay(6, STONES, 3);
        x.move(5, 0, 6, 0, 2);
        x.put(6, 2, 2);
        due("NOTHING and the same STONE, not a like one", x.match(5, 0, 6, 0, 3), 2);
        fill(x, 7, WEIGHTS, 1);
        fill(x, 8, WEIGHTS, 1);
        fill(x, 9, BUNDLES, 12, 7, 7);
        fill(x, 10, BUNDLES, 12, 7, 8);
        due("the same row, not a like one", x.match(9, 0, 10, 0, 3), 2);
        due("NOTHING of BUNDLES and BEADS", x.match(9, 0, 5, 0, 3), 1);
        due("match is not told", x.told(1), 1);
        due("nor its refusals", x.told(5), 0);
    }

    private static void polish() {
        promise = "13 polish";
        BeadBench x = new BeadBench();
        fill(x, 0, BEADS, 1, 3, 0);
        due("polish(0, 1, MAX)", x.polish(0, 1, MAX), 2);
        due("polish(0, 1, 2)", x.polish(0, 1, 2), 2);
        due("going round", x.polished(0, 1), MIN + 1);
        due("the other piece", x.polished(0, 0), 0);
        due("polish(0, 0, -3)", x.polish(0, 0, -3), 1);
        due("below 0", x.polished(0, 0), -3);
        due("NOTHING", x.polish(0, 2, 1), MISSING);
        due("PLACES", x.polish(0, 3, 1), PLACES);
        due("PLACES", x.polish(0, -1, 1), PLACES);
        x.lay(1, LENGTHS, 1);
        due("NUMBERS", x.polish(1, 9, 1), UNLIKE);
        x.lay(1, BUNDLES, 1);
        due("BUNDLES", x.polish(1, 9, 1), UNLIKE);
        due("EMPTY", x.polish(2, 0, 1), MISSING);
        x.ticket(2, 1, 1);
        due("TICKET", x.polish(2, 0, 1), NO_ROW);
        due("BAD", x.polish(12, 0, 1), BAD);
        due("BAD", x.polish(-1, 0, 1), BAD);
        fill(x, 3, STONES, 2);
        due("of STONES", x.polish(3, 0, 4), 3);
        due("of STONES", x.polished(3, 0), 4);
        fill(x, 4, PEARLS, 4);
        due("of PEARLS", x.polish(4, 0, 4), 4);
    }

    private static void tray() {
        promise = "14 tray";
        BeadBench x = weights(1, 2, 3);
        x.ticket(1, 1, -6);
        due("kind of a row", x.tray(0, 0), WEIGHTS);
        due("places of a row", x.tray(0, 1), 3);
        due("TICKET", x.tray(1, 0), 1);
        due("number of a TICKET", x.tray(1, 1), -6);
        due("EMPTY", x.tray(11, 0), 0);
        due("places of EMPTY", x.tray(11, 1), 0);
        due("tray(0, 2)", x.tray(0, 2), BAD);
        due("tray(0, -1)", x.tray(0, -1), BAD);
        due("tray(12, 0)", x.tray(12, 0), BAD);
        due("tray(-1, 1)", x.tray(-1, 1), BAD);
    }

    private static void what() {
        promise = "15 what";
        BeadBench x = weights(1);
        fill(x, 1, BEADS, 0, 1, 2, 3, 4);
        fill(x, 2, BUNDLES, 0, 12);
        x.ticket(3, 1, 1);
        due("a NUMBER", x.what(0, 0), 1);
        due("NOTHING", x.what(1, 0), 0);
        due("PLAIN", x.what(1, 1), 2);
        due("a STONE", x.what(1, 2), 3);
        due("a PEARL", x.what(1, 3), 4);
        due("a BLACK PEARL", x.what(1, 4), 5);
        due("a row", x.what(2, 0), 6);
        due("NOTHING in BUNDLES", x.what(2, 1), 0);
        due("BAD", x.what(12, 0), BAD);
        due("BAD", x.what(-1, 0), BAD);
        due("MISSING", x.what(4, -1), MISSING);
        due("NO_ROW", x.what(3, -1), NO_ROW);
        due("PLACES", x.what(0, 1), PLACES);
        due("PLACES", x.what(0, -1), PLACES);
    }

    private static void at() {
        promise = "16 at";
        BeadBench x = weights(-9, 4);
        fill(x, 1, BEADS, 1, 0, 4);
        fill(x, 2, BUNDLES, 0, 12);
        x.ticket(3, 1, 5);
        row("NUMBERS", x, 0, -9, 4);
        row("pieces", x, 1, 1, 0, 2);
        row("rows", x, 2, 2, 0);
        due("BAD", x.at(12, 0), 0);
        due("BAD", x.at(-1, 0), 0);
        due("MISSING", x.at(4, 0), 0);
        due("NO_ROW", x.at(3, 0), 0);
        due("PLACES", x.at(0, 2), 0);
        due("PLACES", x.at(0, -1), 0);
    }

    private static void polished() {
        promise = "17 polished";
        BeadBench x = weights(MAX, 1, 5);
        fill(x, 1, BEADS, 1, 0);
        x.polish(1, 0, 6);
        x.lay(5, WEIGHTS, 0);
        fill(x, 2, BUNDLES, 0, 12, 5);
        x.ticket(3, 1, 5);
        due("a piece", x.polished(1, 0), 6);
        due("NOTHING", x.polished(1, 1), 0);
        due("a NUMBER", x.polished(0, 1), 0);
        due("a row, going round", x.polished(2, 0), MIN + 5);
        due("NOTHING in BUNDLES", x.polished(2, 1), 0);
        due("a row of no places", x.polished(2, 2), 0);
        due("BAD", x.polished(12, 0), 0);
        due("BAD", x.polished(-1, 0), 0);
        due("MISSING", x.polished(4, 0), 0);
        due("NO_ROW", x.polished(3, 0), 0);
        due("PLACES", x.polished(1, 2), 0);
        due("PLACES", x.polished(1, -1), 0);
    }

    private static void told() {
        promise = "18 told";
        BeadBench x = weights(1, 2, 3);
        x.ticket(1, 1, 1);
        x.lay(3, PRICES, 3);
        fill(x, 4, BEADS, 3, 2, 1);
        x.lay(5, PEARLS, 3);
        x.move(0, 0, 0, 1, 2);
        due("FILLED", x.told(0), 2);
        x.turn(0, 1);
        x.spread(0, 1);
        x.spread(0, 9);
        x.match(0, 0, 0, 0, 3);
        x.move(12, 0, 0, 0, 1);
        x.open(12, 0, 0);
        x.close(12, 0, 0);
        x.undo();
        due("FILLED stays", x.told(0), 2);
        due("STOPPED", x.move(4, 0, 5, 0, 3), STOPPED);
        due("FILLED of a STOPPED one", x.told(0), 1);
        x.move(4, 0, 5, 0, 3);
        x.move(0, 0, 3, 0, 1);
        due("FILLED of a refused one", x.told(0), 0);
        x.move(3, 0, 0, 0, 1);
        x.move(0, 0, 4, 0, 1);
        x.close(1, 0, 0);
        x.turn(1, 0);
        x.spread(1, 0);
        x.open(1, 0, 0);
        x.open(2, 0, 0);
        x.turn(2, 0);
        x.spread(2, 0);
        x.close(2, 0, 0);
        x.move(2, 0, 0, 0, 0);
        due("well", x.told(1), 3);
        due("MISSING", x.told(2), 5);
        due("NO_ROW", x.told(3), 4);
        due("UNLIKE", x.told(4), 3);
        due("PLACES", x.told(5), 1);
        due("STOPPED", x.told(6), 2);
        due("pieces made", x.told(7), 3);
        due("told(8)", x.told(8), BAD);
        due("told(-1)", x.told(-1), BAD);
        due("told(MIN)", x.told(MIN), BAD);
        due("told(MAX)", x.told(MAX), BAD);
    }

    public static void main(String[] args) {
        newObject();
        lay();
        ticket();
        share();
        putNumbers();
        putPieces();
        putRows();
        moveRefused();
        moveWell();
        moveThings();
        open();
        close();
        turn();
        spread();
        undo();
        undoRefused();
        match();
        polish();
        tray();
        what();
        at();
        polished();
        told();
        System.out.println(wrong == 0 ? "all answers are as due" : wrong + " answers are not as due");
        if (wrong != 0) {
            System.exit(1);
        }
    }
}
