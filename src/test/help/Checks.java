import java.util.HashSet;
import java.util.Map;
import java.util.Set;

/** What the tests share: the document's names, the sentence that is looked at, the answers due, and a test's end. */
abstract class Checks {
    static final int MISSING = -1, NO_ROW = -2, UNLIKE = -3, PLACES = -4, STOPPED = -5, BAD = -6;
    static final int NOTCHES = 2, TINTS = 3, LETTERS = 4, STEPS = 5, WEIGHTS = 6, PRICES = 7, SIZES = 8, LENGTHS = 9;
    static final int BEADS = 10, STONES = 11, PEARLS = 12, BUNDLES = 13;
    /** What put() takes for a piece; what() answers one more for each but NOTHING. */
    static final int NOTHING = 0, PLAIN = 1, STONE = 2, PEARL = 3, BLACK_PEARL = 4;
    static final int MIN = Integer.MIN_VALUE, MAX = Integer.MAX_VALUE;

    private static int wrong = 0;
    private static String sentence = "";
    private static final Set<String> SENTENCES = new HashSet<>();

    interface Call {
        long on(Bench x);
    }

    /** The sentence of the document, or the part of it, that the checks up to the next one belong to. */
    static void sentence(String words) {
        sentence = words;
        SENTENCES.add(words);
    }

    static void wrong(String message) {
        wrong++;
        System.out.println(sentence + ": " + message);
    }

    /** What the latest call answered, and should have. */
    static void due(long got, long want) {
        if (got != want) {
            wrong(Bench.story() + " answered " + got + ", due is " + want);
        }
    }

    static void due(boolean got, boolean want) {
        due(got ? 1 : 0, want ? 1 : 0);
    }

    /** With a remark that tells what the call is there for. */
    static void due(String remark, long got, long want) {
        if (got != want) {
            wrong(remark + ": " + Bench.story() + " answered " + got + ", due is " + want);
        }
    }

    static void due(String remark, boolean got, boolean want) {
        due(remark, got ? 1 : 0, want ? 1 : 0);
    }

    /** What at() tells of a tray's row, place by place. */
    static void row(Bench x, int tray, long... want) {
        due(x.tray(tray, 1), want.length);
        for (int i = 0; i < want.length; i++) {
            due(x.at(tray, i), want[i]);
        }
    }

    /** Two looks at all of a bench. */
    static void same(String when, Map<String, Long> got, Map<String, Long> want) {
        if (!got.keySet().equals(want.keySet())) {
            wrong(when + " the trays have other rows than are due");
            return;
        }
        for (Map.Entry<String, Long> seen : want.entrySet()) {
            Long answer = got.get(seen.getKey());
            if (!answer.equals(seen.getValue())) {
                wrong(when + " " + seen.getKey() + " answered " + answer + ", due is " + seen.getValue());
            }
        }
    }

    /** A bench whose tray 0 has WEIGHTS. */
    static Bench weights(int... values) {
        Bench x = new Bench();
        x.fill(0, WEIGHTS, values);
        return x;
    }

    /** Whether n places from the first on are all among the m that a row has. */
    static boolean fits(int first, int n, int m) {
        return first >= 0 && n >= 0 && (long) first + n <= m;
    }

    static void end() {
        String outcome = wrong == 0 ? "all answers are as due" : wrong + " answers are not as due";
        System.out.println(SENTENCES.size() + " sentences, " + outcome);
        if (wrong != 0) {
            System.exit(1);
        }
    }
}
