// Tape, seeds and OUT at their bounds: promises 3, 4, 5 and 13.
public final class RightsStepsBoundsOfSeeds {
    private static final long LATEST_BUT_ONE = Checks.LATEST - 1;

    public static void main(String[] args) {
        promise3LostIfItHasTwoHundred();
        promise3RoomBehindEachSeed();
        promise3RoomBehindWhatIsPassedOver();
        promise3ARowOfNumbers();
        promise3TheTapeIsForAll();
        promise4NotMade();
        promise4TimeFromTheTimeOn();
        promise4TimeUpToTwoToTheSixtieth();
        promise4UnknownBeforeTime();
        promise4TimeBeforeSession();
        promise4ItIsTheTimeThen();
        promise4LevelsAndSessions();
        promise4SessionBeforeRole();
        promise4RoleBeforeOpen();
        promise4RoleBeforeLock();
        promise4OpenIsZero();
        promise4OpenBeforeTape();
        promise4LockedUntil();
        promise4LockBeforeTape();
        promise4NoSeedOnTheTape();
        promise4TheTapeIsEmptyThen();
        promise4Plain();
        promise4NextToPlain();
        promise4AllPlainOnes();
        promise4NoneTwice();
        promise4NoneTwiceForAnyLevel();
        promise4TheNextOne();
        promise4GivenUpToTheLastCall();
        promise4PassedOverIsGone();
        promise4Awaited();
        promise4AwaitedBefore();
        promise4OthersTakeNothing();
        promise5Octets();
        promise5OutOfEachTester();
        promise13Lengths();
        promise13BeforeAndBehind();
        promise13OfZero();
        promise13OfTheTesterAtHand();
        Checks.finish();
    }

    private static void promise3LostIfItHasTwoHundred() {
        Checks.sentence(3, "lost if it has 200");
        for (int before = 198; before <= 200; before++) {
            RightsSteps x = Checks.withLevel(1, 0, 1, 0);
            for (int i = 0; i < before; i++) {
                x.tape(0);
            }
            x.tape(1001);
            Checks.due("the number behind " + before, x.seed(1, 0), before < 200 ? 4 : -34);
        }
    }

    private static void promise3RoomBehindEachSeed() {
        Checks.sentence(3, "A number more for the TAPE; lost if it has 200");
        RightsSteps x = Checks.withLevel(1, 0, 1, 0);
        Checks.fill(x, 1000, 201);
        x.seed(1, 0);
        Checks.dueOut(x, 1000);
        x.tape(5000);
        x.tape(6000);
        for (int i = 1; i < 200; i++) {
            x.seed(1, 0);
        }
        Checks.dueOut(x, 1199);
        Checks.due("the one that found room", x.seed(1, 0), 4);
        Checks.dueOut(x, 5000);
        Checks.due("the one that did not", x.seed(1, 0), -34);
    }

    private static void promise3RoomBehindWhatIsPassedOver() {
        Checks.sentence(3, "what is passed over is gone: it leaves room");
        RightsSteps x = Checks.withLevel(1, 0, 1, 0);
        x.tape(0);
        x.tape(-1);
        Checks.fill(x, 1000, 198);
        x.seed(1, 0);
        Checks.fill(x, 2000, 4);
        for (int i = 0; i < 197; i++) {
            x.seed(1, 0);
        }
        Checks.dueOut(x, 1197);
        for (int i = 0; i < 3; i++) {
            Checks.due("the " + i + "th new one", x.seed(1, 0), 4);
            Checks.dueOut(x, 2000 + i);
        }
        Checks.due("the one too many", x.seed(1, 0), -34);
    }

    private static void promise3ARowOfNumbers() {
        Checks.sentence(3, "THE TAPE is a row of numbers");
        RightsSteps x = Checks.withLevel(1, 0, 1, 0);
        int[] row = {Integer.MIN_VALUE, Integer.MAX_VALUE, 1, -2, Integer.MIN_VALUE + 1, 256};
        for (int i = 0; i < row.length; i++) {
            x.tape(row[i]);
        }
        for (int i = 0; i < row.length; i++) {
            Checks.due("number " + i, x.seed(1, 0), 4);
            Checks.dueOut(x, row[i]);
        }
    }

    private static void promise3TheTapeIsForAll() {
        Checks.sentence(3, "the TAPE is for all, and lost is what comes to 200 of all");
        RightsSteps x = Checks.withLevel(1, 0, 1, 0);
        for (int n = 1; n <= 4; n++) {
            x.tester(n);
            Checks.fill(x, 1000 * n, 50);
        }
        x.tape(9000);
        x.tester(2);
        Checks.giveRights(x);
        for (int i = 0; i < 200; i++) {
            x.seed(1, 0);
        }
        Checks.dueOut(x, 4049);
        Checks.due("the 201st", x.seed(1, 0), -34);
    }

    private static void promise4NotMade() {
        Checks.sentence(4, "-1 the LEVEL was not made");
        RightsSteps x = Checks.withLevel(10, 0, 1, 0);
        x.tape(1001);
        int[] none = {Integer.MIN_VALUE, -1, 0, 9, 11, 20, 21, Integer.MAX_VALUE};
        for (int i = 0; i < none.length; i++) {
            Checks.due("seed(" + none[i] + ", 0)", x.seed(none[i], 0), -1);
        }
        x.level(1, 0, 1, 0);
        x.level(20, 0, 1, 0);
        Checks.due("seed(0, 0)", x.seed(0, 0), -1);
        Checks.due("seed(21, 0)", x.seed(21, 0), -1);
        Checks.due("the tape is as before", x.seed(10, 0), 4);
    }

    private static void promise4TimeFromTheTimeOn() {
        Checks.sentence(4, "-2 the time: less than the TIME (at first 0)");
        RightsSteps x = Checks.withLevel(1, 0, 1, 0);
        Checks.due("seed(1, least)", x.seed(1, Long.MIN_VALUE), -2);
        Checks.due("seed(1, -1)", x.seed(1, -1), -2);
        Checks.due("seed(1, 0)", x.seed(1, 0), -34);
        Checks.due("seed(1, 1)", x.seed(1, 1), -34);
        Checks.due("seed(1, 0) behind it", x.seed(1, 0), -2);
        long[] times = {2, 1000, Integer.MAX_VALUE, 1L << 32, LATEST_BUT_ONE};
        for (int i = 0; i < times.length; i++) {
            Checks.due("seed at " + times[i], x.seed(1, times[i]), -34);
            Checks.due("seed one before", x.seed(1, times[i] - 1), -2);
            Checks.due("seed again", x.seed(1, times[i]), -34);
            Checks.due("seed one behind", x.seed(1, times[i] + 1), -34);
        }
    }

    private static void promise4TimeUpToTwoToTheSixtieth() {
        Checks.sentence(4, "-2 the time: above 2^60");
        RightsSteps x = Checks.withLevel(1, 0, 1, 0);
        Checks.due("above", x.seed(1, Checks.LATEST + 1), -2);
        Checks.due("most", x.seed(1, Long.MAX_VALUE), -2);
        Checks.due("one below", x.seed(1, LATEST_BUT_ONE), -34);
        Checks.due("above, later", x.seed(1, Checks.LATEST + 1), -2);
        Checks.due("at it", x.seed(1, Checks.LATEST), -34);
        Checks.due("at it again", x.seed(1, Checks.LATEST), -34);
        Checks.due("above, at last", x.seed(1, Checks.LATEST + 1), -2);
        Checks.due("one below, at last", x.seed(1, LATEST_BUT_ONE), -2);
    }

    private static void promise4UnknownBeforeTime() {
        Checks.sentence(4, "the first that fits: -1 an unknown number, -2 a time");
        RightsSteps x = Checks.withLevel(1, 0, 1, 0);
        int[] none = {0, 2, 21};
        for (int i = 0; i < none.length; i++) {
            Checks.due("below", x.seed(none[i], -1), -1);
            Checks.due("above", x.seed(none[i], Checks.LATEST + 1), -1);
        }
    }

    private static void promise4TimeBeforeSession() {
        Checks.sentence(4, "REFUSALS answer before all others: -2 before -18 and -51");
        RightsSteps x = new RightsSteps();
        x.level(11, 0, 1, 0);
        Checks.due("session 1, time", x.seed(11, -1), -2);
        Checks.due("session 1", x.seed(11, 0), -18);
        x.session(3);
        Checks.due("no role, time", x.seed(11, Checks.LATEST + 1), -2);
        Checks.due("no role", x.seed(11, 0), -51);
    }

    private static void dueTime(RightsSteps x, long time) {
        Checks.due("one below the time", x.seed(1, time - 1), -2);
        Checks.due("role until the time", x.role(1, true, time), 0);
    }

    private static void promise4ItIsTheTimeThen() {
        Checks.sentence(4, "It is the TIME then (but for -1 and -2)");
        RightsSteps x = new RightsSteps();
        x.level(1, 0, 1, 50);
        x.level(11, 0, 1, 0);
        Checks.due("-18", x.seed(1, 10), -18);
        dueTime(x, 10);
        x.session(3);
        Checks.due("-51", x.seed(11, 20), -51);
        dueTime(x, 20);
        Checks.due("-34", x.seed(1, 30), -34);
        dueTime(x, 30);
        Checks.giveSeed(x, 1, 1001, 40);
        dueTime(x, 40);
        Checks.due("the right key", Checks.sendKey(x, 1, Checks.keyTo(0, 1, 1001)), 1);
        Checks.due("4 as it is open", x.seed(1, 50), 4);
        dueTime(x, 50);
        x.session(3);
        Checks.dueWrong(x, 1, 1002, 50, -54);
        Checks.due("-55", x.seed(1, 60), -55);
        dueTime(x, 60);
        Checks.due("-1", x.seed(2, 70), -1);
        Checks.due("-2", x.seed(1, Checks.LATEST + 1), -2);
        dueTime(x, 60);
        Checks.due("role above the time", x.role(1, true, 61), 1);
        x.tester(2);
        dueTime(x, 60);
        x.reset();
        dueTime(x, 60);
    }

    private static void promise4LevelsAndSessions() {
        Checks.sentence(4, "LEVELS 1 to 10 are for SESSIONS 2 and 3; others for SESSION 3, and with a ROLE, alone");
        int[] levels = {1, 2, 9, 10, 11, 12, 19, 20};
        for (int session = 1; session <= 3; session++) {
            for (int i = 0; i < levels.length; i++) {
                int n = levels[i];
                RightsSteps x = new RightsSteps();
                x.level(n, 0, 1, 0);
                x.tape(1001);
                x.session(session);
                boolean open = session == 3 || session == 2 && n <= 10;
                int without = !open ? -18 : n <= 10 ? 4 : -51;
                Checks.due("level " + n + ", session " + session + ", no role", x.seed(n, 0), without);
                x.role(8, true, 1);
                x.tape(1002);
                Checks.due("level " + n + ", session " + session + ", role", x.seed(n, 0), open ? 4 : -18);
            }
        }
    }

    private static void promise4SessionBeforeRole() {
        Checks.sentence(4, "if the LEVEL is not for the SESSION: -18; otherwise without the ROLE: -51");
        RightsSteps x = new RightsSteps();
        x.level(11, 0, 1, 0);
        for (int session = 1; session <= 3; session++) {
            x.session(session);
            Checks.due("session " + session, x.seed(11, 0), session == 3 ? -51 : -18);
        }
    }

    private static void promise4RoleBeforeOpen() {
        Checks.sentence(4, "without the ROLE that it needs: -51; if the LEVEL is OPEN: OUT is 0");
        RightsSteps x = new RightsSteps();
        x.level(11, 0, 1, 0);
        x.session(3);
        x.role(1, true, 10);
        Checks.openIt(x, 11, 1001, 0);
        Checks.due("one below", x.seed(11, 9), 4);
        Checks.dueOut(x, 0);
        x.level(1, 0, 1, 0);
        Checks.giveSeed(x, 1, 1002, 9);
        Checks.due("at the role's end", x.seed(11, 10), -51);
        Checks.dueOut(x, 1002);
        Checks.due("it is open yet", x.open(11), 1);
        Checks.due("one behind", x.seed(11, 11), -51);
    }

    private static void promise4RoleBeforeLock() {
        Checks.sentence(4, "-18 and -51 come before -55");
        RightsSteps x = Checks.withLevel(11, 0, 1, 50);
        Checks.dueWrong(x, 11, 1001, 0, -54);
        Checks.due("locked", x.seed(11, 0), -55);
        x.session(3);
        Checks.due("without the role", x.seed(11, 0), -51);
        x.session(2);
        Checks.due("not for the session", x.seed(11, 0), -18);
        Checks.giveRights(x);
        Checks.due("locked yet", x.seed(11, 49), -55);
        Checks.due("lock over", x.seed(11, 50), -34);
    }

    private static void promise4OpenIsZero() {
        Checks.sentence(4, "if the LEVEL is OPEN: OUT is 0");
        RightsSteps x = Checks.withLevel(5, 0, 1, 0);
        x.level(6, 0, 1, 0);
        Checks.openIt(x, 5, 1001, 0);
        Checks.dueOut(x, 1001);
        Checks.due("seed of the open one", x.seed(5, 0), 4);
        Checks.dueOut(x, 0);
        Checks.dueDigits(x, "0");
        Checks.due("nothing is awaited by it", Checks.sendKey(x, 5, Checks.keyTo(0, 5, 0)), -36);
        Checks.giveSeed(x, 6, 1002, 0);
        Checks.due("5 is open yet", x.seed(5, 0), 4);
        Checks.dueOut(x, 0);
        Checks.due("6 is awaited yet", Checks.sendKey(x, 6, Checks.keyTo(0, 6, 1002)), 1);
        Checks.due("5 is open no more", x.seed(5, 0), -34);
        Checks.dueOut(x, 0);
    }

    private static void promise4OpenBeforeTape() {
        Checks.sentence(4, "if the LEVEL is OPEN: OUT is 0; otherwise a SEED of the TAPE");
        RightsSteps x = Checks.withLevel(5, 0, 1, 0);
        Checks.openIt(x, 5, 1001, 0);
        Checks.due("open, an empty tape", x.seed(5, 0), 4);
        x.tape(1002);
        Checks.due("open, a tape of one", x.seed(5, 0), 4);
        Checks.dueOut(x, 0);
        x.session(3);
        Checks.due("the tape has it yet", x.seed(5, 0), 4);
        Checks.dueOut(x, 1002);
    }

    private static void promise4LockedUntil() {
        Checks.sentence(4, "if the TIME is less than that until which the LEVEL is LOCKED: -55");
        long[] delays = {0, 1, 2, 99999, 100000};
        long[] starts = {0, 1, 1L << 32, Checks.LATEST - 100001};
        for (int i = 0; i < delays.length; i++) {
            for (int j = 0; j < starts.length; j++) {
                RightsSteps x = Checks.withLevel(5, 0, 1, delays[i]);
                Checks.dueWrong(x, 5, 1001, starts[j], -54);
                long until = starts[j] + delays[i];
                x.tape(1002);
                if (delays[i] > 0) {
                    Checks.due("at the wrong key", x.seed(5, starts[j]), -55);
                    Checks.due("one below " + until, x.seed(5, until - 1), -55);
                }
                Checks.dueOut(x, 1001);
                Checks.due("at " + until, x.seed(5, until), 4);
                Checks.dueOut(x, 1002);
                x.tape(1003);
                Checks.due("one above " + until, x.seed(5, until + 1), 4);
            }
        }
    }

    private static void promise4LockBeforeTape() {
        Checks.sentence(4, "-55 comes before -34, and takes nothing of the TAPE");
        RightsSteps x = Checks.withLevel(5, 0, 1, 5);
        Checks.dueWrong(x, 5, 1001, 0, -54);
        Checks.due("locked, an empty tape", x.seed(5, 0), -55);
        x.tape(1002);
        Checks.due("locked, a tape of one", x.seed(5, 4), -55);
        Checks.dueOut(x, 1001);
        Checks.due("it has one", x.seed(5, 5), 4);
        Checks.due("it has none", x.seed(5, 5), -34);
    }

    private static void promise4NoSeedOnTheTape() {
        Checks.sentence(4, "if the TAPE has no SEED: -34");
        RightsSteps x = Checks.withLevel(5, 0, 1, 0);
        Checks.due("an empty one", x.seed(5, 0), -34);
        x.tape(0x11111111);
        Checks.due("a plain one", x.seed(5, 0), -34);
        Checks.dueOut(x, 0);
        Checks.giveSeed(x, 5, 1001, 0);
        x.tape(1001);
        Checks.due("a given one", x.seed(5, 0), -34);
        Checks.dueOut(x, 1001);
        x.level(6, 0, 1, 0);
        x.tape(0);
        x.tape(1001);
        Checks.due("both, for another level", x.seed(6, 0), -34);
        Checks.dueOut(x, 1001);
        Checks.due("awaited is what was", Checks.sendKey(x, 5, Checks.keyTo(0, 5, 1001)), 1);
    }

    private static void promise4TheTapeIsEmptyThen() {
        Checks.sentence(4, "the TAPE is empty then");
        RightsSteps x = Checks.withLevel(5, 0, 1, 0);
        Checks.giveSeed(x, 5, 999, 0);
        for (int i = 0; i < 200; i++) {
            x.tape(i % 2 == 0 ? 0 : 999);
        }
        Checks.due("200 that are no seeds", x.seed(5, 0), -34);
        for (int i = 0; i < 199; i++) {
            x.tape(-1);
        }
        x.tape(2000);
        x.tape(3000);
        Checks.due("the 200th of the new ones", x.seed(5, 0), 4);
        Checks.dueOut(x, 2000);
        Checks.due("the 201st of the new ones", x.seed(5, 0), -34);
    }

    private static void promise4Plain() {
        Checks.sentence(4, "PLAIN: its four octets are the same");
        RightsSteps x = Checks.withLevel(5, 0, 1, 0);
        int[] octets = {0, 1, 127, 128, 254, 255};
        for (int i = 0; i < octets.length; i++) {
            x.tape(octets[i] << 24 | octets[i] << 16 | octets[i] << 8 | octets[i]);
            Checks.due("four of " + octets[i], x.seed(5, 0), -34);
            Checks.dueOut(x, 0);
        }
    }

    private static void promise4NextToPlain() {
        Checks.sentence(4, "not PLAIN, by one octet, and by one bit of it");
        int[] plain = {0, 0x01010101, 0x7F7F7F7F, 0x80808080, -1};
        for (int i = 0; i < plain.length; i++) {
            for (int bit = 0; bit < 32; bit++) {
                RightsSteps x = Checks.withLevel(5, 0, 1, 0);
                Checks.giveSeed(x, 5, plain[i] ^ 1 << bit, 0);
            }
            for (int octet = 0; octet < 4; octet++) {
                RightsSteps x = Checks.withLevel(5, 0, 1, 0);
                Checks.giveSeed(x, 5, plain[i] ^ 255 << 8 * octet, 0);
            }
        }
        int[] halves = {0x00FF00FF, 0xFF00FF00, 0x0000FFFF, 0xFFFF0000, 0x00FFFF00};
        for (int i = 0; i < halves.length; i++) {
            Checks.giveSeed(Checks.withLevel(5, 0, 1, 0), 5, halves[i], 0);
        }
    }

    private static void promise4AllPlainOnes() {
        Checks.sentence(4, "the next number that is not PLAIN");
        RightsSteps x = Checks.withLevel(5, 0, 1, 0);
        for (int octet = 0; octet < 256; octet++) {
            if (octet == 128) {
                Checks.due("128 plain ones", x.seed(5, 0), -34);
            }
            x.tape(octet * 0x01010101);
        }
        x.tape(1001);
        Checks.due("behind the plain ones", x.seed(5, 0), 4);
        Checks.dueOut(x, 1001);
    }

    private static void promise4NoneTwice() {
        Checks.sentence(4, "was not GIVEN since the last reset");
        RightsSteps x = Checks.withLevel(5, 0, 1, 0);
        x.level(6, 0, 1, 0);
        Checks.giveSeed(x, 5, 1001, 0);
        x.tape(1001);
        Checks.due("given before", x.seed(5, 0), -34);
        x.tape(1001);
        Checks.due("for another level", x.seed(6, 0), -34);
        x.session(3);
        x.tape(1001);
        Checks.due("in another session", x.seed(6, 0), -34);
        x.tester(2);
        Checks.giveRights(x);
        x.tape(1001);
        Checks.due("to another tester", x.seed(5, 0), -34);
        Checks.dueOut(x, 0);
        Checks.giveSeed(x, 5, 1000, 0);
        Checks.giveSeed(x, 5, 1002, 0);
        x.reset();
        Checks.giveRights(x);
        Checks.giveSeed(x, 5, 1001, 0);
        x.tape(1001);
        Checks.due("given since the reset", x.seed(5, 0), -34);
        x.reset();
        x.reset();
        Checks.giveRights(x);
        Checks.giveSeed(x, 5, 1001, 0);
    }

    private static void promise4NoneTwiceForAnyLevel() {
        Checks.sentence(4, "the seeds that were GIVEN are for all LEVELS");
        int[] levels = {1, 10, 11, 20};
        for (int i = 0; i < levels.length; i++) {
            RightsSteps x = Checks.withLevel(levels[i], 0, 1, 0);
            x.level(5, 0, 1, 0);
            Checks.giveSeed(x, levels[i], 1001, 0);
            x.tape(1001);
            Checks.due("given for " + levels[i], x.seed(5, 0), -34);
            Checks.giveSeed(x, 5, 1002, 0);
            x.tape(1002);
            Checks.due("given for 5", x.seed(levels[i], 0), -34);
        }
    }

    private static void promise4TheNextOne() {
        Checks.sentence(4, "the next number that is not PLAIN and was not GIVEN");
        RightsSteps x = Checks.withLevel(5, 0, 1, 0);
        x.tape(1001);
        x.tape(0);
        x.tape(1001);
        x.tape(-1);
        x.tape(1002);
        x.tape(1001);
        x.tape(1003);
        for (int want = 1001; want <= 1003; want++) {
            Checks.due("seed", x.seed(5, 0), 4);
            Checks.dueOut(x, want);
        }
        Checks.due("no more", x.seed(5, 0), -34);
    }

    /** The row of seeds that were given is longest with the 512th call. */
    private static void promise4GivenUpToTheLastCall() {
        Checks.sentence(4, "none twice, for 512 calls after it has been made");
        int seeds = 254;
        int[] again = {0, 1, 127, 252, 253};
        for (int j = 0; j < again.length; j++) {
            RightsSteps x = new RightsSteps();
            x.level(5, 0, 1, 0);
            x.session(2);
            for (int i = 0; i < seeds; i++) {
                x.tape(1000 + i);
                Checks.due("seed " + i, x.seed(5, 0), 4);
            }
            x.tape(1000 + again[j]);
            Checks.due("call 512, seed " + again[j] + " again", x.seed(5, 0), -34);
        }
    }

    private static void promise4PassedOverIsGone() {
        Checks.sentence(4, "what is passed over is gone");
        RightsSteps x = Checks.withLevel(5, 0, 1, 0);
        Checks.giveSeed(x, 5, 1001, 0);
        x.tape(1001);
        x.tape(1002);
        x.tape(1003);
        Checks.due("1001 is passed over", x.seed(5, 0), 4);
        Checks.dueOut(x, 1002);
        x.reset();
        Checks.giveRights(x);
        Checks.due("nor does a reset bring it back", x.seed(5, 0), 4);
        Checks.dueOut(x, 1003);
        Checks.due("and it does not come behind the others", x.seed(5, 0), -34);
    }

    private static void promise4Awaited() {
        Checks.sentence(4, "OUT is the SEED, it is GIVEN, and AWAITED for this LEVEL");
        RightsSteps x = Checks.withRights();
        for (int n = 9; n <= 12; n++) {
            x.level(n, 0, 1, 0);
        }
        Checks.giveSeed(x, 10, 1001, 0);
        int key = Checks.keyTo(0, 10, 1001);
        Checks.due("for the level below", Checks.sendKey(x, 9, key), -36);
        Checks.due("for the level above", Checks.sendKey(x, 11, key), -36);
        Checks.due("for this level", Checks.sendKey(x, 10, key), 1);
    }

    private static void promise4AwaitedBefore() {
        Checks.sentence(4, "what was AWAITED before is not");
        RightsSteps x = Checks.withLevel(5, 0, 10, 0);
        x.level(6, 0, 10, 0);
        Checks.giveSeed(x, 5, 1001, 0);
        Checks.giveSeed(x, 5, 1002, 0);
        Checks.due("the seed before, the same level", Checks.sendKey(x, 5, Checks.keyTo(0, 5, 1001)), -53);
        Checks.giveSeed(x, 5, 1003, 0);
        Checks.giveSeed(x, 6, 1004, 0);
        Checks.due("the seed before, another level", Checks.sendKey(x, 5, Checks.keyTo(0, 5, 1003)), -36);
        Checks.due("the last one", Checks.sendKey(x, 6, Checks.keyTo(0, 6, 1004)), 1);
    }

    /** A level of which -18, -51 and -55 is told, while 7 is open, 8 is awaited, and OUT is its seed. */
    private static void promise4OthersTakeNothing() {
        Checks.sentence(4, "-18, -51 and -55 leave OUT, what is AWAITED, what is OPEN and the TAPE");
        int[] answers = {-18, -51, -55};
        for (int i = 0; i < answers.length; i++) {
            RightsSteps x = new RightsSteps();
            x.level(7, 0, 1, 0);
            x.level(8, 0, 1, 0);
            x.level(9, 0, 1, 50);
            x.level(11, 0, 1, 0);
            x.session(answers[i] == -18 ? 2 : 3);
            Checks.dueWrong(x, 9, 1000, 0, -54);
            Checks.openIt(x, 7, 1001, 0);
            Checks.giveSeed(x, 8, 1002, 0);
            x.tape(1003);
            Checks.due("seed()", x.seed(answers[i] == -55 ? 9 : 11, 0), answers[i]);
            Checks.dueOut(x, 1002);
            Checks.due("open(7)", x.open(7), 1);
            Checks.due("the key of 8", Checks.sendKey(x, 8, Checks.keyTo(0, 8, 1002)), 1);
            Checks.due("the tape has it yet", x.seed(7, 0), 4);
            Checks.dueOut(x, 1003);
        }
    }

    private static void promise5Octets() {
        Checks.sentence(5, "Octet i of OUT (0 the highest); an exception when i is not 0 .. 3");
        int[] seeds = {0x80FF017F, 0x7F8000FF, 0x00000001, 0x01000000, Integer.MIN_VALUE, Integer.MAX_VALUE};
        int[] none = {Integer.MIN_VALUE, -8, -2, -1, 4, 5, 8, 32, Integer.MAX_VALUE};
        for (int i = 0; i < seeds.length; i++) {
            RightsSteps x = Checks.withLevel(5, 0, 1, 0);
            Checks.dueOutThrows(x, -1);
            Checks.due("out(0) at first", x.out(0), 0);
            Checks.due("out(3) at first", x.out(3), 0);
            Checks.dueOutThrows(x, 4);
            Checks.giveSeed(x, 5, seeds[i], 0);
            for (int j = 0; j < none.length; j++) {
                Checks.dueOutThrows(x, none[j]);
            }
            Checks.dueOut(x, seeds[i]);
        }
    }

    private static void promise5OutOfEachTester() {
        Checks.sentence(5, "OUT is each TESTER's own, and stays over sessions and resets");
        RightsSteps x = Checks.withLevel(5, 0, 1, 0);
        for (int n = 1; n <= 4; n++) {
            x.tester(n);
            Checks.dueOut(x, 0);
            Checks.giveRights(x);
            Checks.giveSeed(x, 5, 1000 + n, 0);
        }
        x.session(1);
        x.reset();
        for (int n = 1; n <= 4; n++) {
            x.tester(n);
            Checks.dueOut(x, 1000 + n);
        }
    }

    private static void dueDigitsOf(long number) {
        RightsSteps x = Checks.withLevel(5, 0, 1, 0);
        Checks.giveSeed(x, 5, (int) number, 0);
        Checks.dueDigits(x, Long.toString(number));
    }

    private static void promise13Lengths() {
        Checks.sentence(13, "OUT as a number from 0 to 2^32 - 1, in tens, without 0s before");
        for (long power = 10; power <= 1000000000; power *= 10) {
            dueDigitsOf(power - 1);
            dueDigitsOf(power);
            dueDigitsOf(power + 1);
        }
        long half = 1L << 31;
        long[] numbers = {1, 2, half - 1, half, half + 1, 2 * half - 3, 2 * half - 2, 4000000000L, 4294967290L};
        for (int i = 0; i < numbers.length; i++) {
            dueDigitsOf(numbers[i]);
        }
    }

    private static void promise13BeforeAndBehind() {
        Checks.sentence(13, "an exception before and behind it");
        int[] seeds = {7, 10, Integer.MAX_VALUE, -2};
        int[] none = {Integer.MIN_VALUE, -2, -1, 10, 11, 100, Integer.MAX_VALUE};
        for (int i = 0; i < seeds.length; i++) {
            RightsSteps x = Checks.withLevel(5, 0, 1, 0);
            Checks.giveSeed(x, 5, seeds[i], 0);
            for (int j = 0; j < none.length; j++) {
                Checks.dueDigitThrows(x, none[j]);
            }
        }
    }

    private static void promise13OfZero() {
        Checks.sentence(13, "of 0 one 0");
        RightsSteps x = Checks.withLevel(5, 0, 1, 0);
        Checks.dueDigits(x, "0");
        Checks.openIt(x, 5, -2, 0);
        Checks.dueDigits(x, "4294967294");
        x.seed(5, 0);
        Checks.dueDigits(x, "0");
        x.tester(2);
        Checks.dueDigits(x, "0");
    }

    private static void promise13OfTheTesterAtHand() {
        Checks.sentence(13, "OUT is each TESTER's own");
        RightsSteps x = Checks.withLevel(5, 0, 1, 0);
        int[] seeds = {10, 999, 1000, -2};
        for (int n = 1; n <= 4; n++) {
            x.tester(n);
            Checks.dueDigits(x, "0");
            Checks.giveRights(x);
            Checks.giveSeed(x, 5, seeds[n - 1], 0);
        }
        for (int n = 1; n <= 4; n++) {
            x.tester(n);
            Checks.dueDigits(x, Integer.toUnsignedString(seeds[n - 1]));
        }
    }
}
