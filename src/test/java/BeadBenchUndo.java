/** undo() behind each call that can be taken back, behind refused ones, behind a second undo() and behind none. */
public final class BeadBenchUndo extends Checks {
    /** Trays: 0 and 8 have one row of WEIGHTS, 2 a TICKET, 3 PRICES, 4 BEADS, 5 STONES, 6 BUNDLES with tray 0's row. */
    private static Bench scene() {
        Bench x = weights(10, 20, 30);
        x.share(0, 8);
        x.ticket(2, 1, 3);
        x.fill(3, PRICES, 1, 2);
        x.fill(4, BEADS, STONE, STONE, PEARL, STONE);
        x.fill(5, STONES, STONE, NOTHING, STONE, STONE);
        x.fill(6, BUNDLES, 0, 1);
        return x;
    }

    private static void none() {
        sentence("undo: MISSING: there was none since the beginning");
        due(new Bench().undo(), MISSING);
        due(scene().undo(), MISSING);
        sentence("undo: MISSING: calls that are none, well or refused");
        Bench x = scene();
        x.match(0, 0, 8, 0, 3);
        x.match(0, 0, 1, 0, 3);
        x.polish(4, 0, 5);
        x.polish(4, 9, 5);
        x.put(0, 0, 11);
        x.put(0, 3, 11);
        x.ticket(9, 0, 0);
        due(x.undo(), MISSING);
        row(x, 0, 11, 20, 30);
        sentence("undo: MISSING: one that is BAD is none");
        x.move(12, 0, 0, 0, 1);
        x.move(0, 0, 12, 0, 1);
        x.open(-1, 0, 1);
        x.close(-1, 0, 1);
        x.turn(12, 1);
        x.spread(12, 1);
        due(x.undo(), MISSING);
    }

    /** A call that went well into tray 0, of three places. */
    private static void back(String words, Call call, long... changed) {
        sentence("undo: the row is as it was ahead of " + words);
        Bench x = scene();
        call.on(x);
        row(x, 0, changed);
        due(x.undo(), 3);
        row(x, 0, 10, 20, 30);
        row(x, 8, 10, 20, 30);
        sentence("undo: MISSING: there was none since the latest undo(), behind " + words);
        x.put(0, 1, 21);
        due(x.undo(), MISSING);
        due(x.undo(), MISSING);
        row(x, 0, 10, 21, 30);
        sentence("undo: as it was, whatever was put since " + words);
        Bench y = scene();
        call.on(y);
        y.put(0, 0, 97);
        y.put(8, 1, 98);
        y.put(0, 2, 99);
        due(y.undo(), 3);
        row(y, 0, 10, 20, 30);
        sentence("undo: told() stays, behind " + words);
        due(y.told(1), 1);
    }

    private static void wentWell() {
        back("move()", x -> x.move(0, 0, 0, 1, 2), 10, 10, 20);
        back("move() through another tray", x -> x.move(0, 0, 8, 1, 2), 10, 10, 20);
        back("move() of no places", x -> x.move(0, 0, 0, 1, 0), 10, 20, 30);
        back("open()", x -> x.open(0, 0, 1), 10, 10, 20);
        back("close()", x -> x.close(0, 0, 1), 20, 30, 30);
        back("turn()", x -> x.turn(0, 1), 20, 30, 10);
        back("spread()", x -> x.spread(0, 1), 10, 10, 10);
    }

    /** A refused call whose tray had a row: nothing but what was put since is taken back. */
    private static void refused(String words, Call call, int answer) {
        sentence("undo: one that is refused is one: " + words);
        Bench x = scene();
        x.turn(0, 1);
        due(call.on(x), answer);
        x.put(0, 1, 99);
        due(x.undo(), 3);
        row(x, 0, 20, 30, 10);
        due(x.undo(), MISSING);
        row(x, 0, 20, 30, 10);
    }

    private static void refusedIntoRow() {
        refused("move() as MISSING", x -> x.move(1, 0, 0, 0, 1), MISSING);
        refused("move() as NO_ROW", x -> x.move(2, 0, 0, 0, 1), NO_ROW);
        refused("move() as UNLIKE", x -> x.move(3, 0, 0, 0, 1), UNLIKE);
        refused("move() as PLACES", x -> x.move(0, 0, 0, 1, 3), PLACES);
        refused("open() as PLACES", x -> x.open(0, 0, 4), PLACES);
        refused("close() as PLACES", x -> x.close(0, 0, 4), PLACES);
        refused("spread() as PLACES, n too small", x -> x.spread(0, 0), PLACES);
        refused("spread() as PLACES, n too large", x -> x.spread(0, 4), PLACES);
    }

    /** A refused call whose tray had no row: nothing is taken back, not even what came ahead of it. */
    private static void noRow(String words, Call call, int answer) {
        sentence("undo: MISSING: its tray had no row: " + words);
        Bench x = scene();
        x.turn(0, 1);
        due(call.on(x), answer);
        due(x.undo(), MISSING);
        due(x.undo(), MISSING);
        row(x, 0, 20, 30, 10);
        sentence("undo: MISSING, though its tray has a row since: " + words);
        Bench y = scene();
        call.on(y);
        y.share(0, 1);
        y.share(0, 2);
        due(y.undo(), MISSING);
        row(y, 0, 10, 20, 30);
    }

    private static void refusedIntoNoRow() {
        noRow("move() into EMPTY", x -> x.move(0, 0, 1, 0, 1), MISSING);
        noRow("move() within EMPTY", x -> x.move(1, 0, 1, 0, 0), MISSING);
        noRow("move() into a TICKET", x -> x.move(0, 0, 2, 0, 1), NO_ROW);
        noRow("move() of a TICKET into EMPTY", x -> x.move(2, 0, 1, 0, 1), MISSING);
        noRow("open() of EMPTY", x -> x.open(1, 0, 0), MISSING);
        noRow("open() of a TICKET", x -> x.open(2, 0, 0), NO_ROW);
        noRow("close() of EMPTY", x -> x.close(1, 0, 0), MISSING);
        noRow("close() of a TICKET", x -> x.close(2, 0, 0), NO_ROW);
        noRow("turn() of EMPTY", x -> x.turn(1, 1), MISSING);
        noRow("turn() of a TICKET", x -> x.turn(2, 1), NO_ROW);
        noRow("spread() of EMPTY", x -> x.spread(1, 1), MISSING);
        noRow("spread() of a TICKET", x -> x.spread(2, 1), NO_ROW);
    }

    private static void bad(String words, Call call) {
        sentence("undo: one that is BAD is none, the one ahead of it is taken back: " + words);
        Bench x = scene();
        x.turn(0, 1);
        x.put(0, 0, 77);
        due(call.on(x), BAD);
        x.put(0, 1, 78);
        due(x.undo(), 3);
        row(x, 0, 10, 20, 30);
        due(x.undo(), MISSING);
    }

    private static void badIsNone() {
        bad("move() from no tray", x -> x.move(12, 0, 4, 0, 1));
        bad("move() to no tray", x -> x.move(4, 0, -1, 0, 1));
        bad("open()", x -> x.open(12, 0, 1));
        bad("close()", x -> x.close(-1, 0, 1));
        bad("turn()", x -> x.turn(12, 1));
        bad("spread()", x -> x.spread(-1, 1));
    }

    /** A call that undo() takes no notice of, well or refused, between one that it does take back and undo() itself. */
    private static void passedOver(String words, Call call) {
        sentence("undo: the latest move(), open(), close(), turn() or spread(), though there was since " + words);
        Bench x = scene();
        x.turn(0, 1);
        call.on(x);
        due(x.undo(), 3);
        row(x, 0, 10, 20, 30);
    }

    private static void othersArePassedOver() {
        passedOver("lay()", x -> x.lay(9, WEIGHTS, 3));
        passedOver("ticket()", x -> x.ticket(9, 1, 3) ? 1 : 0);
        passedOver("ticket() of EMPTY", x -> x.ticket(8, 0, 0) ? 1 : 0);
        passedOver("share()", x -> x.share(3, 8));
        passedOver("put() into the row", x -> x.put(0, 0, 5));
        passedOver("put() into another row", x -> x.put(3, 0, 5));
        passedOver("put() that is refused", x -> x.put(3, 2, 5));
        passedOver("match()", x -> x.match(0, 0, 8, 0, 3));
        passedOver("match() that is refused", x -> x.match(0, 0, 1, 0, 3));
        passedOver("polish()", x -> x.polish(4, 0, 5));
        passedOver("polish() that is refused", x -> x.polish(4, 4, 5));
        passedOver("tray()", x -> x.tray(0, 0));
        passedOver("what()", x -> x.what(0, 0));
        passedOver("at()", x -> x.at(0, 0));
        passedOver("polished()", x -> x.polished(4, 0));
        passedOver("told()", x -> x.told(1));
    }

    private static void stopped() {
        sentence("undo: what came ahead of where it was STOPPED is taken back");
        Bench x = scene();
        due(x.move(4, 0, 5, 0, 4), STOPPED);
        row(x, 5, 1, 2, 6, 7);
        x.put(5, 3, NOTHING);
        due(x.undo(), 4);
        row(x, 5, 5, 0, 6, 7);
        sentence("undo: the row it came from stays");
        row(x, 4, 1, 2, 3, 4);
        sentence("undo: told() stays, STOPPED and FILLED too");
        due(x.told(6), 1);
        due(x.told(0), 2);
        due(x.undo(), MISSING);
    }

    private static void latestAlone() {
        sentence("undo: the latest one alone");
        Bench x = scene();
        x.turn(0, 1);
        x.turn(0, 1);
        due(x.undo(), 3);
        row(x, 0, 20, 30, 10);
        due(x.undo(), MISSING);
        row(x, 0, 20, 30, 10);
        sentence("undo: the row of the latest one alone");
        x.turn(0, 1);
        x.turn(3, 1);
        due(x.undo(), 2);
        row(x, 3, 1, 2);
        row(x, 0, 30, 10, 20);
        sentence("undo: again, when there was one since the latest undo()");
        x.open(0, 0, 1);
        due(x.undo(), 3);
        row(x, 0, 30, 10, 20);
        sentence("undo: into b, when a is another row");
        x.fill(9, WEIGHTS, 7, 8);
        x.move(0, 0, 9, 0, 2);
        x.put(0, 0, 31);
        due(x.undo(), 2);
        row(x, 9, 7, 8);
        row(x, 0, 31, 10, 20);
    }

    private static void wherever() {
        sentence("undo: in whichever trays it lies: another one than it was changed in");
        Bench x = scene();
        x.turn(0, 1);
        x.fill(0, WEIGHTS, 1, 2, 3);
        row(x, 8, 20, 30, 10);
        due(x.undo(), 3);
        row(x, 8, 10, 20, 30);
        row(x, 0, 1, 2, 3);
        sentence("undo: in whichever trays it lies: shared since");
        Bench y = scene();
        y.turn(0, 1);
        y.share(0, 11);
        y.ticket(0, 0, 0);
        y.ticket(8, 1, 5);
        due(y.undo(), 3);
        row(y, 11, 10, 20, 30);
        due(y.tray(0, 0), 0);
        due(y.tray(8, 1), 5);
        sentence("undo: how many places, also of a row that lies in BUNDLES alone");
        Bench z = scene();
        z.spread(8, 1);
        z.ticket(0, 0, 0);
        z.ticket(8, 0, 0);
        due(z.polished(6, 0), 30);
        due(z.undo(), 3);
        due(z.polished(6, 0), 60);
        sentence("undo: how many places, also of a row that lies nowhere");
        z.turn(3, 1);
        z.ticket(3, 0, 0);
        due(z.undo(), 2);
    }

    private static void thingsAndRows() {
        sentence("undo: the places of BEADS, with the POLISH that their pieces have now");
        Bench x = scene();
        x.turn(4, 1);
        x.polish(4, 0, 5);
        x.put(4, 3, NOTHING);
        due(x.undo(), 4);
        row(x, 4, 1, 2, 3, 4);
        due(x.polished(4, 1), 5);
        due(x.told(7), 7);
        sentence("undo: the places of BUNDLES, with the WEIGHTS that their rows have now");
        x.turn(6, 1);
        x.put(0, 0, 11);
        due(x.what(6, 0), 0);
        due(x.undo(), 2);
        due(x.what(6, 0), 6);
        due(x.polished(6, 0), 61);
        due(x.what(6, 1), 0);
        sentence("undo: each KIND");
        for (int kind = 2; kind <= 13; kind++) {
            Bench y = weights(1);
            y.lay(1, kind, 2);
            y.put(1, 0, kind == BUNDLES ? 0 : kind == PEARLS ? PEARL : STONE);
            long first = y.at(1, 0);
            y.turn(1, 1);
            due(y.at(1, 1), first);
            due(y.undo(), 2);
            row(y, 1, first, 0);
        }
    }

    public static void main(String[] args) {
        none();
        wentWell();
        refusedIntoRow();
        refusedIntoNoRow();
        badIsNone();
        othersArePassedOver();
        stopped();
        latestAlone();
        wherever();
        thingsAndRows();
        end();
    }
}
