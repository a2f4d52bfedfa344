import java.util.Arrays;

/** Rights of testers: levels that open by seeds and keys, in the order that the document tells. */
public final class RightsSteps {
    private static final int UNKNOWN = -1;
    private static final int OUTSIDE = -2;
    private static final int NOT_IN_THIS_STATE = -3;

    private static final int NOT_FOR_THE_SESSION = -18;
    private static final int NOT_FOUR_OCTETS = -19;
    private static final int NO_SEED_ON_THE_TAPE = -34;
    private static final int NOTHING_AWAITED = -36;
    private static final int WITHOUT_THE_ROLE = -51;
    private static final int WRONG_KEY = -53;
    private static final int WRONG_KEY_AND_LOCKED = -54;
    private static final int STILL_LOCKED = -55;

    private static final int LEVELS = 20;
    private static final int LAST_LEVEL_WITHOUT_ROLE = 10;
    private static final int KINDS = 3;
    private static final int MOST_TRIES = 10;
    private static final long LONGEST_DELAY = 100000;

    private static final int TESTERS = 4;
    private static final int SESSIONS = 3;
    private static final int ROLES = 8;
    private static final long LATEST_TIME = 1L << 60;
    private static final long LONGEST_LEFT = 1000000;

    private static final int OCTETS = 4;
    private static final int MOST_DIGITS = 10;

    private static final int NO_LEVEL = 0;

    // 0 is plain, so no seed is ever 0, and 0 can say that there is none.
    private static final int NO_SEED = 0;

    // The least long: no time that a caller can name is below it, so nothing lasts until it.
    private static final long NEVER = 1L << 63;

    private final Level[] levels = new Level[LEVELS + 1];
    private final Tape tape = new Tape();
    private final GivenSeeds given = new GivenSeeds();
    private final UseLog uses = new UseLog();
    private final Tester[] testers = new Tester[TESTERS];
    private Tester atHand;
    private int levelsMade;
    private long time;

    public RightsSteps() {
        for (int i = 0; i < testers.length; i++) {
            testers[i] = new Tester(i + 1);
        }
        atHand = testers[0];
    }

    public int level(int n, int does, int tries, long delay) {
        if (n < 1 || n > LEVELS) {
            return UNKNOWN;
        }
        if (does < 0 || does >= KINDS || tries < 1 || tries > MOST_TRIES
                || delay < 0 || delay > LONGEST_DELAY) {
            return OUTSIDE;
        }
        if (levels[n] != null) {
            return NOT_IN_THIS_STATE;
        }
        levels[n] = new Level(n, does, tries, delay);
        levelsMade++;
        return levelsMade;
    }

    public void tape(int v) {
        tape.add(v);
    }

    public int seed(int level, long t) {
        Level asked = madeLevel(level);
        if (asked == null) {
            return UNKNOWN;
        }
        if (t < time || t > LATEST_TIME) {
            return OUTSIDE;
        }
        time = t;
        int answer = askForSeed(asked);
        uses.add(atHand.number, level, answer);
        return answer;
    }

    public byte out(int i) throws ArrayIndexOutOfBoundsException {
        if (i < 0 || i >= OCTETS) {
            throw new ArrayIndexOutOfBoundsException();
        }
        return (byte) (atHand.out >>> (24 - 8 * i));
    }

    public int key(int level, byte b, boolean last) {
        atHand.addOctet(b);
        if (!last) {
            return 0;
        }
        int octets = atHand.octets;
        int key = atHand.keySoFar;
        // Also a level that was not made takes the octets with it.
        atHand.dropOctets();
        Level meant = madeLevel(level);
        if (meant == null) {
            return UNKNOWN;
        }
        int answer = octets == OCTETS ? tryKey(meant, key) : NOT_FOUR_OCTETS;
        uses.add(atHand.number, level, answer);
        return answer;
    }

    public int open(int level) {
        if (madeLevel(level) == null) {
            return UNKNOWN;
        }
        return atHand.openLevel == level ? 1 : 0;
    }

    public int session(int kind) {
        if (kind < 1 || kind > SESSIONS) {
            return OUTSIDE;
        }
        int before = atHand.session;
        atHand.startSession(kind);
        return before;
    }

    public int reset() {
        int opened = 0;
        for (int i = 0; i < testers.length; i++) {
            Tester one = testers[i];
            if (one.openLevel != NO_LEVEL) {
                opened++;
            }
            one.startSession(1);
            one.dropOctets();
        }
        given.forgetAll();
        return opened;
    }

    public int role(int role, boolean good, long until) {
        if (role < 1 || role > ROLES) {
            return UNKNOWN;
        }
        if (!good || until <= time) {
            return 0;
        }
        // Every role opens the same levels, so how long it is had is all there is to keep.
        atHand.roleUntil = until;
        return 1;
    }

    public int left(int level, long t) {
        if (madeLevel(level) == null) {
            return UNKNOWN;
        }
        long until = atHand.lockedUntil(level);
        if (t >= until) {
            return 0;
        }
        // Compared before it is subtracted: until - t may be beyond a long.
        if (t < until - LONGEST_LEFT) {
            return (int) LONGEST_LEFT;
        }
        return (int) (until - t);
    }

    public int log(int i, int what) {
        if (i == -1 && what == 0) {
            return uses.count;
        }
        if (!uses.has(i)) {
            return UNKNOWN;
        }
        if (what < 0 || what >= UseLog.PARTS) {
            return OUTSIDE;
        }
        return uses.part(i, what);
    }

    public int digit(int i) throws ArrayIndexOutOfBoundsException {
        long number = atHand.out & 0xFFFFFFFFL;
        int digits = countDigits(number);
        if (i < 0 || i >= digits) {
            throw new ArrayIndexOutOfBoundsException();
        }
        for (int behind = digits - 1; behind > i; behind--) {
            number = number / 10;
        }
        return (int) (number % 10);
    }

    public int tester(int n) {
        if (n < 1 || n > TESTERS) {
            return OUTSIDE;
        }
        int before = atHand.number;
        atHand = testers[n - 1];
        return before;
    }

    private Level madeLevel(int n) {
        return n < 1 || n > LEVELS ? null : levels[n];
    }

    private int askForSeed(Level asked) {
        if (!asked.isForSession(atHand.session)) {
            return NOT_FOR_THE_SESSION;
        }
        if (asked.needsRole() && time >= atHand.roleUntil) {
            return WITHOUT_THE_ROLE;
        }
        if (atHand.openLevel == asked.number) {
            atHand.out = 0;
            return OCTETS;
        }
        if (time < atHand.lockedUntil(asked.number)) {
            return STILL_LOCKED;
        }
        int seed = tape.takeSeed(given);
        if (seed == NO_SEED) {
            return NO_SEED_ON_THE_TAPE;
        }
        given.add(seed);
        atHand.awaitKey(asked.number, seed);
        return OCTETS;
    }

    private int tryKey(Level meant, int key) {
        if (atHand.awaitedLevel != meant.number) {
            return NOTHING_AWAITED;
        }
        atHand.awaitedLevel = NO_LEVEL;
        if (key == meant.keyTo(atHand.awaitedSeed)) {
            atHand.openLevel = meant.number;
            atHand.setUsedTries(meant.number, 0);
            return 1;
        }
        int used = atHand.usedTries(meant.number) + 1;
        if (used < meant.tries) {
            atHand.setUsedTries(meant.number, used);
            return WRONG_KEY;
        }
        atHand.setUsedTries(meant.number, 0);
        atHand.lock(meant.number, time + meant.delay);
        return WRONG_KEY_AND_LOCKED;
    }

    private static int countDigits(long number) {
        int digits = 1;
        for (long power = 10; power <= number && digits < MOST_DIGITS; power *= 10) {
            digits++;
        }
        return digits;
    }

    private static boolean isPlain(int number) {
        return number == (number & 0xFF) * 0x01010101;
    }

    private static final class Level {
        private static final int MASK = 1515870810;
        private static final int FACTOR = -1640531535;
        private static final int POLYNOMIAL = -306674912;

        private final int number;
        private final int kind;
        private final int tries;
        private final long delay;

        Level(int number, int kind, int tries, long delay) {
            this.number = number;
            this.kind = kind;
            this.tries = tries;
            this.delay = delay;
        }

        boolean needsRole() {
            return number > LAST_LEVEL_WITHOUT_ROLE;
        }

        boolean isForSession(int session) {
            return session == 3 || session == 2 && number <= LAST_LEVEL_WITHOUT_ROLE;
        }

        int keyTo(int seed) {
            if (kind == 0) {
                return seed ^ MASK;
            }
            if (kind == 1) {
                return (seed << 7 | seed >>> 25) * FACTOR + number;
            }
            return shiftedKeyTo(seed);
        }

        private int shiftedKeyTo(int seed) {
            int rest = seed ^ number;
            for (int i = 0; i < 32; i++) {
                boolean oneWentOut = (rest & 1) == 1;
                rest = rest >>> 1;
                if (oneWentOut) {
                    rest = rest ^ POLYNOMIAL;
                }
            }
            return rest;
        }
    }

    private static final class Tester {
        private final int number;
        private int session = 1;
        private long roleUntil = NEVER;
        private int openLevel = NO_LEVEL;
        private int awaitedLevel = NO_LEVEL;
        private int awaitedSeed;
        private int octets;
        private int keySoFar;
        private int out;
        private final int[] usedTries = new int[LEVELS + 1];
        private final long[] lockedUntil = new long[LEVELS + 1];

        Tester(int number) {
            this.number = number;
            Arrays.fill(lockedUntil, NEVER);
        }

        // Octets of a key are not told to be gone here, only by a reset.
        void startSession(int kind) {
            session = kind;
            awaitedLevel = NO_LEVEL;
            openLevel = NO_LEVEL;
            roleUntil = NEVER;
        }

        void awaitKey(int level, int seed) {
            out = seed;
            awaitedLevel = level;
            awaitedSeed = seed;
        }

        // One more than four is as wrong as any number above: the count stops there.
        void addOctet(byte b) {
            if (octets <= OCTETS) {
                octets++;
            }
            keySoFar = keySoFar << 8 | b & 0xFF;
        }

        void dropOctets() {
            octets = 0;
            keySoFar = 0;
        }

        int usedTries(int level) {
            return level < 0 || level >= usedTries.length ? 0 : usedTries[level];
        }

        void setUsedTries(int level, int used) {
            if (level >= 0 && level < usedTries.length) {
                usedTries[level] = used;
            }
        }

        long lockedUntil(int level) {
            return level < 0 || level >= lockedUntil.length ? NEVER : lockedUntil[level];
        }

        void lock(int level, long until) {
            if (level >= 0 && level < lockedUntil.length) {
                lockedUntil[level] = until;
            }
        }
    }

    /** A ring: the numbers stand from the place first on and go round behind the row's end. */
    private static final class Tape {
        private static final int MOST = 200;

        private final int[] numbers = new int[MOST];
        private int first;
        private int size;

        void add(int number) {
            if (size >= numbers.length) {
                return;
            }
            int place = first + size;
            if (place >= numbers.length) {
                place -= numbers.length;
            }
            numbers[place] = number;
            size++;
        }

        int takeSeed(GivenSeeds given) {
            for (int rest = size; rest > 0; rest--) {
                int number = takeFirst();
                if (!isPlain(number) && !given.has(number)) {
                    return number;
                }
            }
            return NO_SEED;
        }

        private int takeFirst() {
            if (first >= numbers.length) {
                first = 0;
            }
            int number = numbers[first];
            first++;
            size--;
            return number;
        }
    }

    private static final class GivenSeeds {
        // Each one takes a call of tape() and one of seed(), and an object has 512 calls.
        private static final int MOST = 256;

        private final int[] seeds = new int[MOST];
        private int size;

        boolean has(int seed) {
            for (int i = 0; i < size && i < seeds.length; i++) {
                if (seeds[i] == seed) {
                    return true;
                }
            }
            return false;
        }

        void add(int seed) {
            if (size < seeds.length) {
                seeds[size] = seed;
                size++;
            }
        }

        void forgetAll() {
            size = 0;
        }
    }

    private static final class UseLog {
        private static final int MOST = 300;
        private static final int PARTS = 3;

        private final int[] parts = new int[MOST * PARTS];
        private int kept;
        // All uses, also those that came too late to be kept.
        private int count;

        void add(int tester, int level, int answer) {
            count++;
            if (kept >= MOST) {
                return;
            }
            int place = kept * PARTS;
            parts[place] = tester;
            parts[place + 1] = level;
            parts[place + 2] = answer;
            kept++;
        }

        boolean has(int i) {
            return i >= 0 && i < kept;
        }

        int part(int i, int what) {
            return has(i) && what >= 0 && what < PARTS ? parts[i * PARTS + what] : 0;
        }
    }
}
