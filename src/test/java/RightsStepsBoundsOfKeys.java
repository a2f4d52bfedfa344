import java.math.BigInteger;

// Keys, tries and locks at their bounds: promises 6 and 11.
public final class RightsStepsBoundsOfKeys {
    private static final int[] SEEDS = {1, 2, 255, 256, 0x01000000, 0x02000000, 0x01020304, 0x7F000000,
        Integer.MAX_VALUE, Integer.MAX_VALUE - 1, Integer.MIN_VALUE, Integer.MIN_VALUE + 1, -2, -256,
        305419896, -559038737, 1515870811, 1640531535, -306674912, 306674912};

    public static void main(String[] args) {
        promise6KeyOfKindZero();
        promise6KeyOfKindOne();
        promise6KeyOfKindOneWraps();
        promise6KeyOfKindTwo();
        promise6KeysByHand();
        promise6EachBitCounts();
        promise6TheHighestFirst();
        promise6NotTheLastOne();
        promise6NotFour();
        promise6FarMoreThanFour();
        promise6NotFourBeforeAwaited();
        promise6TheOctetsBeforeAreGone();
        promise6NotMadeBeforeNotFour();
        promise6TheLastOneTellsTheLevel();
        promise6NothingAwaited();
        promise6NothingAwaitedAnyMore();
        promise6OpenAndNoOtherOne();
        promise6TriesFromOneToTen();
        promise6NoTriesOfItAreUsed();
        promise6TriesOfEachLevel();
        promise6OneIsUsedOnlyByAWrongKey();
        promise6LockedUntilTheTimeAndItsDelay();
        promise6LockFromTheTimeOfTheKey();
        promise6LockAtTheLatestTime();
        promise6TriesAndLocksOfEachTester();
        promise11NotMade();
        promise11NeverLocked();
        promise11HowLong();
        promise11AtMostAMillion();
        promise11AtAnyTime();
        promise11ADelayOfZero();
        promise11AtTheLatestTime();
        promise11TheRightKeyLater();
        promise11OfEachTesterAndLevel();
        Checks.finish();
    }

    private static void dueKey(int kind, int level, int seed, int key) {
        RightsSteps x = Checks.withLevel(level, kind, 10, 0);
        Checks.giveSeed(x, level, seed, 0);
        Checks.due("kind " + kind + ", level " + level + ", seed " + seed, Checks.sendKey(x, level, key), 1);
        Checks.due("open(" + level + ")", x.open(level), 1);
    }

    private static void dueKeys(int kind) {
        int[] levels = {1, 2, 10, 11, 19, 20};
        for (int i = 0; i < levels.length; i++) {
            for (int j = 0; j < SEEDS.length; j++) {
                dueKey(kind, levels[i], SEEDS[j], Checks.keyTo(kind, levels[i], SEEDS[j]));
            }
        }
    }

    private static void promise6KeyOfKindZero() {
        Checks.sentence(6, "KIND 0: x xor 1515870810");
        dueKeys(0);
    }

    private static void promise6KeyOfKindOne() {
        Checks.sentence(6, "KIND 1: x turned to the left by 7, times -1640531535, and n more");
        dueKeys(1);
    }

    /** The seeds whose product is one of the greatest numbers: n more goes over the end of 32 bits. */
    private static void promise6KeyOfKindOneWraps() {
        Checks.sentence(6, "KIND 1 (32 bits, all wraps): and n more");
        BigInteger all = BigInteger.ONE.shiftLeft(32);
        BigInteger back = BigInteger.valueOf(-1640531535).modInverse(all);
        int[] products = {Integer.MAX_VALUE, Integer.MAX_VALUE - 1, Integer.MAX_VALUE - 19, -1, -2, -19, -20};
        for (int i = 0; i < products.length; i++) {
            int turned = BigInteger.valueOf(products[i]).multiply(back).mod(all).intValue();
            int seed = Integer.rotateRight(turned, 7);
            dueKey(1, 1, seed, products[i] + 1);
            dueKey(1, 20, seed, products[i] + 20);
        }
    }

    private static void promise6KeyOfKindTwo() {
        Checks.sentence(6, "KIND 2: x xor n, then 32 times: moved to the right by 1 (0 coming in)");
        dueKeys(2);
    }

    private static void promise6KeysByHand() {
        Checks.sentence(6, "THE KEY to a seed x of LEVEL n, reckoned by hand");
        dueKey(0, 5, 1515870811, 1);
        dueKey(0, 5, 1, 1515870811);
        dueKey(1, 1, 0x02000000, -1640531534);
        dueKey(1, 20, 0x02000000, -1640531515);
        dueKey(1, 1, 0x01000000, -2147483647);
        // x xor n has a single 1 here: it goes out with the last move, or with the last but one.
        dueKey(2, 1, Integer.MIN_VALUE + 1, -306674912);
        dueKey(2, 20, Integer.MIN_VALUE + 20, -306674912);
        dueKey(2, 1, 0x40000001, -306674912 >>> 1);
        dueKey(2, 3, 3, 0);
    }

    private static void promise6EachBitCounts() {
        Checks.sentence(6, "If it is right; if it is not: by each of its 32 bits");
        for (int kind = 0; kind <= 2; kind++) {
            RightsSteps x = Checks.withLevel(7, kind, 10, 0);
            for (int bit = 0; bit < 32; bit++) {
                x.tape(1001 + bit);
                x.seed(7, 0);
                int key = Checks.keyTo(kind, 7, 1001 + bit) ^ 1 << bit;
                int want = bit % 10 == 9 ? -54 : -53;
                Checks.due("kind " + kind + ", bit " + bit + " is wrong", Checks.sendKey(x, 7, key), want);
                Checks.due("open(7)", x.open(7), 0);
            }
        }
    }

    private static void promise6TheHighestFirst() {
        Checks.sentence(6, "A KEY for a LEVEL comes octet by octet, the highest first");
        RightsSteps x = Checks.withLevel(7, 0, 10, 0);
        int key = 0x80FF017F;
        Checks.giveSeed(x, 7, key ^ 1515870810, 0);
        Checks.due("the highest last", Checks.sendKey(x, 7, 0x7F01FF80), -53);
        x.reset();
        Checks.giveRights(x);
        Checks.giveSeed(x, 7, key ^ 1515870810, 0);
        x.key(7, (byte) -128, false);
        x.key(7, (byte) -1, false);
        x.key(7, (byte) 1, false);
        Checks.due("the highest first", x.key(7, (byte) 127, true), 1);
    }

    private static void promise6NotTheLastOne() {
        Checks.sentence(6, "An octet of a KEY, the last one or not: 0");
        RightsSteps x = Checks.withLevel(7, 0, 10, 0);
        int[] levels = {7, 8, 1, 20, 0, 21, -1, Integer.MIN_VALUE, Integer.MAX_VALUE};
        for (int i = 0; i < levels.length; i++) {
            Checks.due("key(" + levels[i] + ", 0, false)", x.key(levels[i], (byte) 0, false), 0);
            Checks.due("key(" + levels[i] + ", -1, false)", x.key(levels[i], (byte) -1, false), 0);
        }
        Checks.due("no use is told", x.log(-1, 0), 0);
    }

    /** So many octets, the last four of them those of the key; the last one of all ends it. */
    private static int sendOctets(RightsSteps x, int level, int key, int many) {
        for (int left = many; left > 1; left--) {
            int octet = left > 4 ? 0 : key >> 8 * (left - 1);
            Checks.due("key(.., false)", x.key(level, (byte) octet, false), 0);
        }
        return x.key(level, (byte) key, true);
    }

    private static void promise6NotFour() {
        Checks.sentence(6, "with the last one: if there were not four: -19");
        RightsSteps x = Checks.withLevel(7, 0, 1, 0);
        Checks.giveSeed(x, 7, 1001, 0);
        int key = Checks.keyTo(0, 7, 1001);
        int[] many = {1, 2, 3, 5, 6, 7, 8, 9, 12, 16};
        for (int i = 0; i < many.length; i++) {
            Checks.due(many[i] + " octets", sendOctets(x, 7, key, many[i]), -19);
            Checks.due("open(7)", x.open(7), 0);
        }
        Checks.due("four octets", sendOctets(x, 7, key, 4), 1);
    }

    /** What is told by four octets alone must not come round, not by an octet that counts them either. */
    private static void promise6FarMoreThanFour() {
        Checks.sentence(6, "if there were not four: -19, also for the most that 512 calls can bring");
        int[] many = {255, 256, 257, 259, 260, 261, 480};
        for (int i = 0; i < many.length; i++) {
            RightsSteps x = Checks.withLevel(7, 0, 1, 0);
            Checks.giveSeed(x, 7, 1001, 0);
            int key = Checks.keyTo(0, 7, 1001);
            Checks.due(many[i] + " octets", sendOctets(x, 7, key, many[i]), -19);
            Checks.due("four octets", sendOctets(x, 7, key, 4), 1);
        }
    }

    private static void promise6NotFourBeforeAwaited() {
        Checks.sentence(6, "if there were not four: -19; if nothing is AWAITED for this LEVEL: -36");
        RightsSteps x = Checks.withLevel(7, 0, 1, 0);
        Checks.due("three octets, nothing awaited", sendOctets(x, 7, 0, 3), -19);
        Checks.due("four octets, nothing awaited", sendOctets(x, 7, 0, 4), -36);
        Checks.due("five octets, nothing awaited", sendOctets(x, 7, 0, 5), -19);
    }

    private static void promise6TheOctetsBeforeAreGone() {
        Checks.sentence(6, "with the last one the octets before are gone, also with -1 and -19 and -36");
        RightsSteps x = Checks.withLevel(7, 0, 10, 0);
        Checks.giveSeed(x, 7, 1001, 0);
        int key = Checks.keyTo(0, 7, 1001);
        for (int before = 0; before < 6; before++) {
            Checks.due("-1 behind " + before, sendOctets(x, 8, 0, before + 1), -1);
            Checks.due("three more", sendOctets(x, 7, key, 3), -19);
            Checks.due("one more", sendOctets(x, 7, key, 1), -19);
        }
        x.level(8, 0, 1, 0);
        Checks.due("-36", sendOctets(x, 8, 0, 4), -36);
        Checks.due("the right key", sendOctets(x, 7, key, 4), 1);
        Checks.giveSeed(x, 8, 1002, 0);
        Checks.due("behind a right one", sendOctets(x, 8, Checks.keyTo(0, 8, 1002), 4), 1);
        Checks.dueWrong(x, 7, 1003, 0, -53);
        Checks.giveSeed(x, 7, 1004, 0);
        Checks.due("behind a wrong one", sendOctets(x, 7, Checks.keyTo(0, 7, 1004), 4), 1);
    }

    private static void promise6NotMadeBeforeNotFour() {
        Checks.sentence(6, "-1 the LEVEL was not made, before all others");
        RightsSteps x = Checks.withLevel(7, 0, 1, 0);
        Checks.giveSeed(x, 7, 1001, 0);
        int[] none = {Integer.MIN_VALUE, -1, 0, 6, 8, 20, 21, Integer.MAX_VALUE};
        for (int i = 0; i < none.length; i++) {
            Checks.due("one octet for " + none[i], sendOctets(x, none[i], 0, 1), -1);
            Checks.due("four octets for " + none[i], sendOctets(x, none[i], 0, 4), -1);
            Checks.due("five octets for " + none[i], sendOctets(x, none[i], 0, 5), -1);
        }
        Checks.due("awaited is what was", sendOctets(x, 7, Checks.keyTo(0, 7, 1001), 4), 1);
    }

    private static void promise6TheLastOneTellsTheLevel() {
        Checks.sentence(6, "with the last one alone it is looked at");
        RightsSteps x = Checks.withLevel(7, 0, 1, 0);
        x.level(8, 0, 1, 0);
        Checks.giveSeed(x, 7, 1001, 0);
        int key = Checks.keyTo(0, 7, 1001);
        Checks.due("for 8", x.key(8, (byte) (key >> 24), false), 0);
        Checks.due("for 0", x.key(0, (byte) (key >> 16), false), 0);
        Checks.due("for 21", x.key(21, (byte) (key >> 8), false), 0);
        Checks.due("for 7, the last one", x.key(7, (byte) key, true), 1);
    }

    private static void promise6NothingAwaited() {
        Checks.sentence(6, "if nothing is AWAITED for this LEVEL: -36");
        RightsSteps x = Checks.withRights();
        for (int n = 1; n <= 20; n++) {
            x.level(n, 0, 1, 0);
        }
        Checks.due("nothing at first", sendOctets(x, 7, 0, 4), -36);
        Checks.due("nothing at first, the key of 0", sendOctets(x, 7, 1515870810, 4), -36);
        Checks.giveSeed(x, 7, 1001, 0);
        int key = Checks.keyTo(0, 7, 1001);
        for (int n = 1; n <= 20; n++) {
            if (n != 7) {
                Checks.due("for level " + n, sendOctets(x, n, key, 4), -36);
            }
        }
        Checks.due("for level 7", sendOctets(x, 7, key, 4), 1);
    }

    private static void promise6NothingAwaitedAnyMore() {
        Checks.sentence(6, "otherwise nothing is AWAITED any more");
        RightsSteps x = Checks.withLevel(7, 0, 10, 0);
        Checks.dueWrong(x, 7, 1001, 0, -53);
        Checks.due("the right key behind a wrong one", sendOctets(x, 7, Checks.keyTo(0, 7, 1001), 4), -36);
        Checks.openIt(x, 7, 1002, 0);
        Checks.due("the right key once more", sendOctets(x, 7, Checks.keyTo(0, 7, 1002), 4), -36);
        Checks.due("a wrong one behind it", sendOctets(x, 7, 5, 4), -36);
        Checks.due("it is open yet", x.open(7), 1);
    }

    private static void promise6OpenAndNoOtherOne() {
        Checks.sentence(6, "If it is right, the LEVEL is OPEN, no other one is");
        RightsSteps x = Checks.withLevel(7, 0, 2, 0);
        x.level(8, 0, 2, 0);
        Checks.openIt(x, 7, 1001, 0);
        Checks.giveSeed(x, 8, 1002, 0);
        Checks.due("7 with a seed for 8", x.open(7), 1);
        Checks.due("a wrong key for 8", sendOctets(x, 8, 5, 4), -53);
        Checks.due("7 behind -53", x.open(7), 1);
        Checks.dueWrong(x, 8, 1003, 0, -54);
        Checks.due("7 behind -54", x.open(7), 1);
        Checks.due("three octets for 8", sendOctets(x, 8, 5, 3), -19);
        Checks.due("nothing awaited for 8", sendOctets(x, 8, 5, 4), -36);
        Checks.due("7 behind -19 and -36", x.open(7), 1);
        Checks.openIt(x, 8, 1004, 0);
        Checks.due("7 with 8", x.open(7), 0);
        Checks.due("8", x.open(8), 1);
    }

    private static void promise6TriesFromOneToTen() {
        Checks.sentence(6, "one is used; if these are as many as TRIES, none are used: -54; otherwise -53");
        for (int tries = 1; tries <= 10; tries++) {
            RightsSteps x = Checks.withLevel(7, 0, tries, 0);
            for (int i = 1; i <= 2 * tries + 1; i++) {
                int want = i == tries || i == 2 * tries || tries == 1 ? -54 : -53;
                Checks.dueWrong(x, 7, 1000 + i, 0, want);
            }
        }
    }

    private static void promise6NoTriesOfItAreUsed() {
        Checks.sentence(6, "If it is right, no TRIES of it are used");
        RightsSteps x = Checks.withLevel(7, 0, 3, 0);
        for (int wrong = 0; wrong <= 2; wrong++) {
            for (int i = 1; i <= wrong; i++) {
                Checks.dueWrong(x, 7, 1000 + 10 * wrong + i, 0, -53);
            }
            Checks.openIt(x, 7, 2000 + wrong, 0);
            x.session(3);
            Checks.due("it is shut", x.open(7), 0);
        }
        Checks.dueWrong(x, 7, 3001, 0, -53);
        Checks.dueWrong(x, 7, 3002, 0, -53);
        Checks.dueWrong(x, 7, 3003, 0, -54);
    }

    private static void promise6TriesOfEachLevel() {
        Checks.sentence(6, "no TRIES of it are used: those of another level stay");
        RightsSteps x = Checks.withLevel(1, 0, 2, 5);
        x.level(2, 0, 2, 5);
        x.level(20, 0, 2, 5);
        Checks.dueWrong(x, 1, 1001, 0, -53);
        Checks.dueWrong(x, 20, 1002, 0, -53);
        Checks.openIt(x, 2, 1003, 0);
        Checks.dueWrong(x, 20, 1004, 0, -54);
        Checks.due("20 is locked", x.seed(20, 0), -55);
        Checks.due("1 is not", x.left(1, 0), 0);
        Checks.dueWrong(x, 1, 1005, 0, -54);
        x.session(3);
        Checks.dueWrong(x, 2, 1006, 0, -53);
    }

    private static void promise6OneIsUsedOnlyByAWrongKey() {
        Checks.sentence(6, "if it is not, one is used: not by -1, -19, -36, a seed or another session");
        RightsSteps x = Checks.withLevel(7, 0, 2, 0);
        Checks.due("-36", sendOctets(x, 7, 5, 4), -36);
        Checks.giveSeed(x, 7, 1001, 0);
        Checks.due("-19", sendOctets(x, 7, 5, 3), -19);
        Checks.due("-1", sendOctets(x, 8, 5, 4), -1);
        Checks.giveSeed(x, 7, 1002, 0);
        Checks.giveRights(x);
        Checks.dueWrong(x, 7, 1003, 0, -53);
        Checks.giveSeed(x, 7, 1004, 0);
        Checks.giveRights(x);
        Checks.dueWrong(x, 7, 1005, 0, -54);
    }

    private static void promise6LockedUntilTheTimeAndItsDelay() {
        Checks.sentence(6, "the LEVEL is LOCKED until the TIME and its DELAY: -54");
        RightsSteps x = Checks.withLevel(7, 0, 2, 100);
        x.level(8, 0, 1, 7);
        Checks.dueWrong(x, 7, 1001, 10, -53);
        Checks.due("behind -53", x.left(7, 10), 0);
        Checks.dueWrong(x, 7, 1002, 20, -54);
        Checks.due("behind -54", x.left(7, 20), 100);
        Checks.dueWrong(x, 8, 1003, 30, -54);
        Checks.due("8", x.left(8, 30), 7);
        Checks.due("7", x.left(7, 30), 90);
        Checks.due("8 at its end", x.seed(8, 37), -34);
        Checks.due("7 one below", x.seed(7, 119), -55);
        Checks.due("7 at its end", x.seed(7, 120), -34);
    }

    private static void promise6LockFromTheTimeOfTheKey() {
        Checks.sentence(6, "LOCKED until the TIME: that of the last seed(), of whomever");
        RightsSteps x = Checks.withLevel(7, 0, 1, 100);
        Checks.giveSeed(x, 7, 1001, 10);
        x.tester(2);
        Checks.due("the time goes on", x.seed(7, 50), -18);
        x.tester(1);
        Checks.due("a wrong key", sendOctets(x, 7, 5, 4), -54);
        Checks.due("left(7, 50)", x.left(7, 50), 100);
        Checks.due("one below", x.seed(7, 149), -55);
        Checks.due("at its end", x.seed(7, 150), -34);
    }

    private static void promise6LockAtTheLatestTime() {
        Checks.sentence(6, "LOCKED until the TIME and its DELAY, at the TIME 2^60");
        long[] delays = {0, 1, 100000};
        for (int i = 0; i < delays.length; i++) {
            RightsSteps x = Checks.withLevel(7, 0, 1, delays[i]);
            Checks.dueWrong(x, 7, 1001, Checks.LATEST, -54);
            Checks.due("a delay of " + delays[i], x.seed(7, Checks.LATEST), delays[i] == 0 ? -34 : -55);
            Checks.due("the time above", x.seed(7, Checks.LATEST + delays[i]), delays[i] == 0 ? -34 : -2);
        }
    }

    private static void promise6TriesAndLocksOfEachTester() {
        Checks.sentence(6, "TRIES and locks are each TESTER's own");
        RightsSteps x = Checks.withLevel(7, 0, 2, 100);
        for (int n = 1; n <= 4; n++) {
            x.tester(n);
            Checks.giveRights(x);
            Checks.dueWrong(x, 7, 1000 + n, 0, -53);
        }
        x.tester(2);
        Checks.dueWrong(x, 7, 1005, 0, -54);
        for (int n = 1; n <= 4; n++) {
            x.tester(n);
            Checks.due("left(7, 0) of tester " + n, x.left(7, 0), n == 2 ? 100 : 0);
            Checks.due("seed(7, 0) of tester " + n, x.seed(7, 0), n == 2 ? -55 : -34);
        }
    }

    private static void promise11NotMade() {
        Checks.sentence(11, "-1 it was not made");
        RightsSteps x = Checks.withLevel(7, 0, 1, 100);
        Checks.dueWrong(x, 7, 1001, 0, -54);
        int[] none = {Integer.MIN_VALUE, -1, 0, 6, 8, 20, 21, Integer.MAX_VALUE};
        for (int i = 0; i < none.length; i++) {
            Checks.due("left(" + none[i] + ", 0)", x.left(none[i], 0), -1);
            Checks.due("left(" + none[i] + ", least)", x.left(none[i], Long.MIN_VALUE), -1);
        }
        Checks.due("left(7, 0)", x.left(7, 0), 100);
        x.level(1, 0, 1, 0);
        x.level(20, 0, 1, 0);
        Checks.due("left(1, 0)", x.left(1, 0), 0);
        Checks.due("left(20, 0)", x.left(20, 0), 0);
        Checks.due("left(0, 0)", x.left(0, 0), -1);
        Checks.due("left(21, 0)", x.left(21, 0), -1);
    }

    private static void promise11NeverLocked() {
        Checks.sentence(11, "0 if it is not");
        RightsSteps x = Checks.withLevel(7, 0, 2, 100);
        long[] times = {Long.MIN_VALUE, Long.MIN_VALUE + 1, -1000001, -1000000, -1, 0, 1, Long.MAX_VALUE};
        for (int i = 0; i < times.length; i++) {
            Checks.due("left(7, " + times[i] + ")", x.left(7, times[i]), 0);
        }
        Checks.dueWrong(x, 7, 1001, 0, -53);
        for (int i = 0; i < times.length; i++) {
            Checks.due("left(7, " + times[i] + ") behind one try", x.left(7, times[i]), 0);
        }
    }

    private static void promise11HowLong() {
        Checks.sentence(11, "How long a LEVEL is LOCKED yet at a time");
        long[] delays = {1, 2, 99999, 100000};
        for (int i = 0; i < delays.length; i++) {
            RightsSteps x = Checks.withLevel(7, 0, 1, delays[i]);
            Checks.dueWrong(x, 7, 1001, 500, -54);
            long until = 500 + delays[i];
            Checks.due("at the wrong key", x.left(7, 500), delays[i]);
            Checks.due("one before it", x.left(7, 499), delays[i] + 1);
            Checks.due("one behind it", x.left(7, 501), delays[i] - 1);
            Checks.due("one below the end", x.left(7, until - 1), 1);
            Checks.due("at the end", x.left(7, until), 0);
            Checks.due("one above the end", x.left(7, until + 1), 0);
        }
    }

    private static void promise11AtMostAMillion() {
        Checks.sentence(11, "at most 1000000 is told");
        RightsSteps x = Checks.withLevel(7, 0, 1, 100000);
        Checks.dueWrong(x, 7, 1001, 5000000, -54);
        long until = 5100000;
        Checks.due("one below", x.left(7, until - 999999), 999999);
        Checks.due("at it", x.left(7, until - 1000000), 1000000);
        Checks.due("one above", x.left(7, until - 1000001), 1000000);
        long[] far = {Integer.MAX_VALUE, 1L << 31, 1L << 32, (1L << 32) + 1, 1L << 40, Checks.LATEST};
        for (int i = 0; i < far.length; i++) {
            Checks.due(far[i] + " before the end", x.left(7, until - far[i]), 1000000);
        }
    }

    private static void promise11AtAnyTime() {
        Checks.sentence(11, "at a time (any one)");
        RightsSteps x = Checks.withLevel(7, 0, 1, 100);
        Checks.dueWrong(x, 7, 1001, 50, -54);
        Checks.due("the least", x.left(7, Long.MIN_VALUE), 1000000);
        Checks.due("one above the least", x.left(7, Long.MIN_VALUE + 1), 1000000);
        Checks.due("below 0", x.left(7, -1), 151);
        Checks.due("0", x.left(7, 0), 150);
        Checks.due("below the time", x.left(7, 49), 101);
        Checks.due("above 2^60", x.left(7, Checks.LATEST + 1), 0);
        Checks.due("the most", x.left(7, Long.MAX_VALUE), 0);
        Checks.due("the time is as before", x.seed(7, 50), -55);
        Checks.due("it was not earlier either", x.seed(7, 49), -2);
    }

    private static void promise11ADelayOfZero() {
        Checks.sentence(11, "LOCKED until the TIME and its DELAY, a DELAY of 0");
        RightsSteps x = Checks.withLevel(7, 0, 1, 0);
        Checks.dueWrong(x, 7, 1001, 50, -54);
        Checks.due("at the time", x.left(7, 50), 0);
        Checks.due("one above", x.left(7, 51), 0);
        Checks.due("one below", x.left(7, 49), 1);
        Checks.due("it may be asked for", x.seed(7, 50), -34);
    }

    private static void promise11AtTheLatestTime() {
        Checks.sentence(11, "How long a LEVEL is LOCKED yet, from the TIME 2^60 on");
        RightsSteps x = Checks.withLevel(7, 0, 1, 100000);
        Checks.dueWrong(x, 7, 1001, Checks.LATEST, -54);
        long until = Checks.LATEST + 100000;
        Checks.due("at 2^60", x.left(7, Checks.LATEST), 100000);
        Checks.due("one below the end", x.left(7, until - 1), 1);
        Checks.due("at the end", x.left(7, until), 0);
        Checks.due("one above the end", x.left(7, until + 1), 0);
        Checks.due("the most", x.left(7, Long.MAX_VALUE), 0);
        Checks.due("0", x.left(7, 0), 1000000);
        Checks.due("the least", x.left(7, Long.MIN_VALUE), 1000000);
    }

    private static void promise11TheRightKeyLater() {
        Checks.sentence(11, "at a time (any one): also behind the right key, and a later lock counts");
        RightsSteps x = Checks.withLevel(7, 0, 1, 100);
        Checks.dueWrong(x, 7, 1001, 0, -54);
        Checks.openIt(x, 7, 1002, 100);
        Checks.due("at its end", x.left(7, 100), 0);
        Checks.due("one below its end", x.left(7, 99), 1);
        x.session(3);
        Checks.dueWrong(x, 7, 1003, 200, -54);
        Checks.due("the later lock", x.left(7, 200), 100);
        Checks.due("told from before", x.left(7, 99), 201);
    }

    private static void promise11OfEachTesterAndLevel() {
        Checks.sentence(11, "only that of the one AT HAND is looked at");
        RightsSteps x = Checks.withLevel(7, 0, 1, 100);
        x.level(6, 0, 1, 100);
        x.level(8, 0, 1, 100);
        Checks.dueWrong(x, 7, 1001, 0, -54);
        Checks.due("left(6, 0)", x.left(6, 0), 0);
        Checks.due("left(8, 0)", x.left(8, 0), 0);
        for (int n = 1; n <= 4; n++) {
            x.tester(n);
            Checks.due("left(7, 0) of tester " + n, x.left(7, 0), n == 1 ? 100 : 0);
        }
        x.reset();
        x.tester(1);
        Checks.due("left(7, 0) behind a reset", x.left(7, 0), 100);
    }
}
