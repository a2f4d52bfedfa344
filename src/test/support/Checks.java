import java.math.BigInteger;
import java.util.zip.CRC32;

/** What the tests share: the sentence that is at hand, what is due, and calls of several steps. */
final class Checks {
    static final long LATEST = 1L << 60;

    private static final long MASK = 0xFFFFFFFFL;

    private static String sentence = "";
    private static int wrong = 0;

    private Checks() {
    }

    /** From now on each wrong answer is told with this promise and these words for what it says. */
    static void sentence(int promise, String words) {
        sentence = "Promise " + promise + " (" + words + "): ";
    }

    static void due(String call, long got, long want) {
        if (got != want) {
            wrong++;
            System.out.println(sentence + call + " answered " + got + ", due is " + want);
        }
    }

    static void finish() {
        System.out.println(wrong == 0 ? "all answers are as due" : wrong + " answers are not as due");
        if (wrong != 0) {
            System.exit(1);
        }
    }

    static void dueOutThrows(RightsSteps x, int i) {
        int thrown = 0;
        try {
            x.out(i);
        } catch (ArrayIndexOutOfBoundsException e) {
            thrown = 1;
        }
        due("out(" + i + ") throws (1: it does)", thrown, 1);
    }

    static void dueDigitThrows(RightsSteps x, int i) {
        int thrown = 0;
        try {
            x.digit(i);
        } catch (ArrayIndexOutOfBoundsException e) {
            thrown = 1;
        }
        due("digit(" + i + ") throws (1: it does)", thrown, 1);
    }

    static void dueOut(RightsSteps x, int want) {
        for (int i = 0; i < 4; i++) {
            due("out(" + i + ") of " + want, x.out(i), (byte) (want >> (24 - 8 * i)));
        }
    }

    /** All digits, and that there is none before the first and none behind the last. */
    static void dueDigits(RightsSteps x, String digits) {
        for (int i = 0; i < digits.length(); i++) {
            due("digit(" + i + ") of " + digits, x.digit(i), digits.charAt(i) - '0');
        }
        dueDigitThrows(x, -1);
        dueDigitThrows(x, digits.length());
        dueDigitThrows(x, digits.length() + 1);
    }

    /** Session 3 and a role without an end: each level may be asked for. */
    static RightsSteps withRights() {
        RightsSteps x = new RightsSteps();
        giveRights(x);
        return x;
    }

    static void giveRights(RightsSteps x) {
        x.session(3);
        x.role(1, true, Long.MAX_VALUE);
    }

    static RightsSteps withLevel(int n, int kind, int tries, long delay) {
        RightsSteps x = withRights();
        due("level(" + n + ", " + kind + ", " + tries + ", " + delay + ")", x.level(n, kind, tries, delay), 1);
        return x;
    }

    /** The numbers first, first + 1 and so on: none of them may be plain. */
    static void fill(RightsSteps x, int first, int many) {
        for (int i = 0; i < many; i++) {
            x.tape(first + i);
        }
    }

    /** This number alone comes to an empty tape, and is the seed. */
    static void giveSeed(RightsSteps x, int level, int seed, long t) {
        x.tape(seed);
        due("seed(" + level + ", " + t + ")", x.seed(level, t), 4);
        dueOut(x, seed);
    }

    static int sendKey(RightsSteps x, int level, int key) {
        due("first octet", x.key(level, (byte) (key >> 24), false), 0);
        due("second octet", x.key(level, (byte) (key >> 16), false), 0);
        due("third octet", x.key(level, (byte) (key >> 8), false), 0);
        return x.key(level, (byte) key, true);
    }

    /** A level of kind 0 opens, by a number that comes to an empty tape. */
    static void openIt(RightsSteps x, int level, int seed, long t) {
        giveSeed(x, level, seed, t);
        due("the right key of " + level, sendKey(x, level, keyTo(0, level, seed)), 1);
    }

    /** A key to a level of kind 0 that is wrong, and what it answers. */
    static void dueWrong(RightsSteps x, int level, int seed, long t, int want) {
        giveSeed(x, level, seed, t);
        due("a wrong key of " + level, sendKey(x, level, keyTo(0, level, seed) ^ 1), want);
    }

    /** The key as the document tells it, by other means than the program's. */
    static int keyTo(int kind, int level, int seed) {
        if (kind == 0) {
            return seed ^ 1515870810;
        }
        return kind == 1 ? turnedKey(level, seed) : shiftedKey(level, seed);
    }

    private static int turnedKey(int level, int seed) {
        long turned = (seed & MASK) * 128;
        turned = (turned & MASK) + (turned >> 32);
        return BigInteger.valueOf(turned).multiply(BigInteger.valueOf(-1640531535))
                .add(BigInteger.valueOf(level)).intValue();
    }

    /** The 32 steps are those of a CRC-32 over four octets, but for its turned bits before and behind. */
    private static int shiftedKey(int level, int seed) {
        int row = ~(seed ^ level);
        CRC32 crc = new CRC32();
        for (int i = 0; i < 4; i++) {
            crc.update(row >> (8 * i));
        }
        return ~(int) crc.getValue();
    }
}
