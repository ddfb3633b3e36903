/** A bench for beads: trays that hold rows of numbers, of pieces or of rows, or a ticket, or nothing. */
public final class BeadBench {
    public static final int MISSING = -1, NO_ROW = -2, UNLIKE = -3, PLACES = -4, STOPPED = -5, BAD = -6;

    private static final int TRAYS = 12, LONGEST = 64;

    private static final int EMPTY = 0, TICKET = 1;
    private static final int NOTCHES = 2, TINTS = 3, LETTERS = 4, STEPS = 5, WEIGHTS = 6, SIZES = 8, LENGTHS = 9;
    private static final int BEADS = 10, STONES = 11, PEARLS = 12, BUNDLES = 13;

    private static final int NOTHING = 0, NUMBER = 1, PLAIN = 2, STONE = 3, PEARL = 4, BLACK_PEARL = 5, ROW = 6;

    private static final int NOT_REFUSED = 0;

    private final Holding nothing;
    private final Holding[] trays;
    /** The places of the latest changed row as they were: undo() needs them, and moves within one row read them. */
    private final Holding before;
    /** The row that undo() would bring back; null when there is none. */
    private Holding changed;
    /** What went well at 0, and what was refused at the refusal's number without its sign. */
    private final int[] tally;
    private int filled;
    private int piecesMade;

    public BeadBench() {
        nothing = new Holding(EMPTY, 0, 0);
        trays = new Holding[TRAYS];
        for (int t = 0; t < TRAYS; t++) {
            trays[t] = nothing;
        }
        before = new Holding(EMPTY, LONGEST, 0);
        changed = null;
        tally = new int[-STOPPED + 1];
        filled = 0;
        piecesMade = 0;
    }

    public int lay(int tray, int kind, int n) {
        if (!isTray(tray) || kind < NOTCHES || kind > BUNDLES || n < 0 || n > LONGEST) {
            return BAD;
        }
        trays[tray] = new Holding(kind, n, 0);
        return n;
    }

    public boolean ticket(int tray, int what, int number) {
        if (!isTray(tray) || (what != EMPTY && what != TICKET)) {
            return false;
        }
        trays[tray] = what == TICKET ? new Holding(TICKET, 0, number) : nothing;
        return true;
    }

    public int share(int from, int tray) {
        if (!isTray(from) || !isTray(tray)) {
            return BAD;
        }
        trays[tray] = trays[from];
        return trays[tray].kind;
    }

    public int put(int tray, int i, int v) {
        if (!isTray(tray)) {
            return BAD;
        }
        Holding row = trays[tray];
        int refusal = row.refusal();
        if (refusal != NOT_REFUSED) {
            return refusal;
        }
        // The piece counts as made even if it then finds no place.
        Thing thing = thingFor(row.kind, v);
        if (!row.hasPlace(i)) {
            return PLACES;
        }
        if (!row.accepts(thing)) {
            return UNLIKE;
        }
        row.numbers[i] = row.isOfNumbers() ? numberFor(row.kind, v) : 0;
        row.things[i] = thing;
        return 1;
    }

    public int move(int from, int p, int to, int q, int n) {
        if (!isTray(from) || !isTray(to)) {
            return BAD;
        }
        keep(trays[to]);
        return counted(carry(trays[from], p, trays[to], q, n));
    }

    public int open(int tray, int place, int n) {
        if (!isTray(tray)) {
            return BAD;
        }
        return move(tray, place, tray, place + n, trays[tray].size - place - n);
    }

    public int close(int tray, int place, int n) {
        if (!isTray(tray)) {
            return BAD;
        }
        return move(tray, place + n, tray, place, trays[tray].size - place - n);
    }

    public int turn(int tray, int k) {
        if (!isTray(tray)) {
            return BAD;
        }
        Holding row = trays[tray];
        keep(row);
        int refusal = row.refusal();
        if (refusal != NOT_REFUSED) {
            return counted(refusal);
        }
        int m = row.size;
        // A row without places has nothing to turn, and would be a divisor of 0.
        int first = m > 0 ? Math.floorMod(k, m) : 0;
        for (int i = 0; i < m; i++) {
            row.copyPlace(i, before, (first + i) % m);
        }
        return counted(m);
    }

    public int spread(int tray, int n) {
        if (!isTray(tray)) {
            return BAD;
        }
        Holding row = trays[tray];
        keep(row);
        int refusal = row.refusal();
        if (refusal != NOT_REFUSED) {
            return counted(refusal);
        }
        if (n < 1 || n > row.size) {
            return counted(PLACES);
        }
        for (int i = n; i < row.size; i++) {
            row.copyPlace(i, before, i % n);
        }
        return counted(row.size);
    }

    public int undo() {
        Holding row = changed;
        changed = null;
        if (row == null) {
            return MISSING;
        }
        for (int i = 0; i < row.size; i++) {
            row.copyPlace(i, before, i);
        }
        return row.size;
    }

    public int match(int from, int p, int to, int q, int n) {
        if (!isTray(from) || !isTray(to)) {
            return BAD;
        }
        Holding a = trays[from];
        Holding b = trays[to];
        int refusal = refusalOfPair(a, b);
        if (refusal != NOT_REFUSED) {
            return refusal;
        }
        if (n < 0 || p < 0 || p > a.size || q < 0 || q > b.size) {
            return PLACES;
        }
        int most = Math.min(n, Math.min(a.size - p, b.size - q));
        int alike = 0;
        while (alike < most && a.isAlike(p + alike, b, q + alike)) {
            alike++;
        }
        return alike;
    }

    public int polish(int tray, int i, int more) {
        if (!isTray(tray)) {
            return BAD;
        }
        Holding row = trays[tray];
        int refusal = row.refusal();
        if (refusal != NOT_REFUSED) {
            return refusal;
        }
        if (row.isOfNumbers() || row.kind == BUNDLES) {
            return UNLIKE;
        }
        if (!row.hasPlace(i)) {
            return PLACES;
        }
        if (row.things[i] instanceof Piece piece) {
            piece.gloss += more;
            return piece.number;
        }
        return MISSING;
    }

    public int tray(int tray, int what) {
        if (!isTray(tray) || what < 0 || what > 1) {
            return BAD;
        }
        Holding holding = trays[tray];
        if (what == 0) {
            return holding.kind;
        }
        return holding.kind == TICKET ? holding.ticketNumber : holding.size;
    }

    public int what(int tray, int i) {
        if (!isTray(tray)) {
            return BAD;
        }
        Holding row = trays[tray];
        int refusal = row.refusal();
        if (refusal != NOT_REFUSED) {
            return refusal;
        }
        if (!row.hasPlace(i)) {
            return PLACES;
        }
        if (row.isOfNumbers()) {
            return NUMBER;
        }
        Thing thing = row.things[i];
        return thing == null ? NOTHING : thing.sortOfThing();
    }

    public long at(int tray, int i) {
        if (!isTray(tray) || !trays[tray].hasPlace(i)) {
            return 0;
        }
        Holding row = trays[tray];
        Thing thing = row.things[i];
        return thing == null ? row.numbers[i] : thing.count();
    }

    public int polished(int tray, int i) {
        if (!isTray(tray) || !trays[tray].hasPlace(i)) {
            return 0;
        }
        Thing thing = trays[tray].things[i];
        return thing == null ? 0 : thing.shine();
    }

    public int told(int what) {
        if (what == 0) {
            return filled;
        }
        if (what >= 1 && what <= tally.length) {
            return tally[what - 1];
        }
        return what == 7 ? piecesMade : BAD;
    }

    private static boolean isTray(int tray) {
        return tray >= 0 && tray < TRAYS;
    }

    /** A refused call is kept too: undo() then takes back what was put since. */
    private void keep(Holding holding) {
        changed = holding.refusal() == NOT_REFUSED ? holding : null;
        for (int i = 0; i < holding.size; i++) {
            before.copyPlace(i, holding, i);
        }
    }

    private int counted(int answer) {
        tally[answer < 0 ? -answer : 0]++;
        return answer;
    }

    /** The MOVE itself; keep(b) must have gone ahead of it. */
    private int carry(Holding a, int p, Holding b, int q, int n) {
        filled = 0;
        int refusal = refusalOfPair(a, b);
        if (refusal != NOT_REFUSED) {
            return refusal;
        }
        if (!a.hasPlaces(p, n) || !b.hasPlaces(q, n)) {
            return PLACES;
        }
        // Within one row a place may be overwritten ahead of its own turn.
        Holding source = a == b ? before : a;
        while (filled < n && b.accepts(source.things[p + filled])) {
            b.copyPlace(q + filled, source, p + filled);
            filled++;
        }
        return filled < n ? STOPPED : n;
    }

    private static int refusalOfPair(Holding a, Holding b) {
        if (a.kind == EMPTY || b.kind == EMPTY) {
            return MISSING;
        }
        if (a.kind == TICKET || b.kind == TICKET) {
            return NO_ROW;
        }
        boolean numbers = a.isOfNumbers() || b.isOfNumbers();
        return numbers && a.kind != b.kind ? UNLIKE : NOT_REFUSED;
    }

    /** What put() lays into a row of such a kind; null for NOTHING, and for rows of NUMBERS. */
    private Thing thingFor(int kind, int v) {
        if (kind == BUNDLES) {
            return isTray(v) && trays[v].kind == WEIGHTS ? trays[v] : null;
        }
        return kind >= BEADS ? newPiece(Math.floorMod(v, 5)) : null;
    }

    private Piece newPiece(int choice) {
        if (choice == 0) {
            return null;
        }
        piecesMade++;
        return new Piece(PLAIN + choice - 1, piecesMade);
    }

    /** Every NUMBER that v can become is a whole one, so that a long holds it whatever the kind. */
    private static long numberFor(int kind, int v) {
        switch (kind) {
            case NOTCHES:
                return v != 0 ? 1 : 0;
            case TINTS:
                return (byte) v;
            case LETTERS:
                return (char) v;
            case STEPS:
                return (short) v;
            case SIZES:
                return (long) (float) v;
            default:
                return v;
        }
    }

    /** What can lie at a place of BEADS, STONES, PEARLS or BUNDLES. */
    private abstract static class Thing {
        abstract int sortOfThing();

        abstract int count();

        abstract int shine();
    }

    private static final class Piece extends Thing {
        private final int sort;
        private final int number;
        private int gloss;

        Piece(int sort, int number) {
            this.sort = sort;
            this.number = number;
            this.gloss = 0;
        }

        @Override
        int sortOfThing() {
            return sort;
        }

        @Override
        int count() {
            return number;
        }

        @Override
        int shine() {
            return gloss;
        }
    }

    /**
     * What a tray has: nothing, a ticket or a row. Only a row has places. Each place has a number and a thing, of
     * which the kind uses one and leaves the other 0 or null, so that places are copied and compared in one way.
     */
    private static final class Holding extends Thing {
        private final int kind;
        private final int size;
        private final int ticketNumber;
        private final long[] numbers;
        private final Thing[] things;

        /** The size must be 0 to LONGEST. */
        Holding(int kind, int size, int ticketNumber) {
            this.kind = kind;
            this.size = size;
            this.ticketNumber = ticketNumber;
            this.numbers = new long[size];
            this.things = new Thing[size];
        }

        @Override
        int sortOfThing() {
            return ROW;
        }

        @Override
        int count() {
            return size;
        }

        @Override
        int shine() {
            int sum = 0;
            for (int i = 0; i < size; i++) {
                sum += (int) numbers[i];
            }
            return sum;
        }

        int refusal() {
            if (kind == EMPTY) {
                return MISSING;
            }
            return kind == TICKET ? NO_ROW : NOT_REFUSED;
        }

        boolean isOfNumbers() {
            return kind >= NOTCHES && kind <= LENGTHS;
        }

        boolean hasPlace(int i) {
            return i >= 0 && i < size;
        }

        boolean hasPlaces(int first, int n) {
            return first >= 0 && n >= 0 && (long) first + n <= size;
        }

        boolean accepts(Thing thing) {
            if (thing == null) {
                return true;
            }
            int sort = thing.sortOfThing();
            switch (kind) {
                case BEADS:
                    return sort != ROW;
                case STONES:
                    return sort == STONE;
                case PEARLS:
                    return sort == PEARL || sort == BLACK_PEARL;
                case BUNDLES:
                    return sort == ROW;
                default:
                    return false;
            }
        }

        /** Both places must be there. */
        void copyPlace(int i, Holding from, int j) {
            numbers[i] = from.numbers[j];
            things[i] = from.things[j];
        }

        /** Both places must be there. */
        boolean isAlike(int i, Holding other, int j) {
            return numbers[i] == other.numbers[j] && things[i] == other.things[j];
        }
    }
}
