// Sessions, resets, roles, the log and testers at their bounds: promises 8, 9, 10, 12 and 14.
public final class RightsStepsBoundsOfTesters {
    public static void main(String[] args) {
        promise8OneToThree();
        promise8WhichItWas();
        promise8NothingAwaitedNothingOpenNoRole();
        promise8WhatStays();
        promise8OfTheTesterAtHand();
        promise9HowManyWereOpen();
        promise9ThatForAllTesters();
        promise9OctetsAreGone();
        promise9NoSeedCountsAsGiven();
        promise9LockedAndTriesStay();
        promise9WhatElseStays();
        promise10OneToEight();
        promise10UnknownBeforeVerdict();
        promise10AboveTheTime();
        promise10AnyUntil();
        promise10VerdictNotGood();
        promise10ValidUntil();
        promise10TheLastOne();
        promise10OfTheTesterAtHand();
        promise12NoneAtFirst();
        promise12FromZeroToTheLast();
        promise12TheFirstThreeHundred();
        promise12HowManyThereWere();
        promise12WhatZeroToTwo();
        promise12NoneBeforeNoSuchWhat();
        promise12ButForRefusals();
        promise12EachAnswer();
        promise12TheLogIsForAll();
        promise14OneToFour();
        promise14WhichItWas();
        promise14EachTestersOwn();
        promise14TheSameOne();
        promise14AwaitedOfOneAlone();
        promise14ForAll();
        Checks.finish();
    }

    private static void promise8OneToThree() {
        Checks.sentence(8, "SESSIONS are 1 (at first) to 3; -2 there is none");
        RightsSteps x = new RightsSteps();
        int[] none = {Integer.MIN_VALUE, -1, 0, 4, 5, 257, Integer.MAX_VALUE};
        for (int i = 0; i < none.length; i++) {
            Checks.due("session(" + none[i] + ")", x.session(none[i]), -2);
        }
        Checks.due("session(1)", x.session(1), 1);
        Checks.due("session(2)", x.session(2), 1);
        Checks.due("session(3)", x.session(3), 2);
        Checks.due("session(4) behind it", x.session(4), -2);
        Checks.due("session(0) behind it", x.session(0), -2);
        Checks.due("session(3) again", x.session(3), 3);
    }

    private static void promise8WhichItWas() {
        Checks.sentence(8, "Another SESSION: which it was");
        for (int before = 1; before <= 3; before++) {
            for (int next = 1; next <= 3; next++) {
                RightsSteps x = new RightsSteps();
                Checks.due("session(" + before + ") at first", x.session(before), 1);
                Checks.due("session(" + next + ")", x.session(next), before);
                Checks.due("session(1) behind both", x.session(1), next);
            }
        }
    }

    private static void promise8NothingAwaitedNothingOpenNoRole() {
        Checks.sentence(8, "Another SESSION, also the same one: nothing is AWAITED, nothing OPEN, no ROLE");
        for (int next = 1; next <= 3; next++) {
            RightsSteps x = Checks.withLevel(7, 0, 1, 0);
            x.level(8, 0, 1, 0);
            x.level(11, 0, 1, 0);
            Checks.openIt(x, 7, 1001, 0);
            Checks.giveSeed(x, 8, 1002, 0);
            Checks.due("session(" + next + ")", x.session(next), 3);
            Checks.due("open(7) in " + next, x.open(7), 0);
            Checks.due("a key in " + next, Checks.sendKey(x, 8, Checks.keyTo(0, 8, 1002)), -36);
            Checks.due("seed(11, 0) in " + next, x.seed(11, 0), next == 3 ? -51 : -18);
            x.session(3);
            Checks.due("the role is not had again", x.seed(11, 0), -51);
            Checks.due("nor is 7 open again", x.open(7), 0);
        }
    }

    private static void promise8WhatStays() {
        Checks.sentence(8, "Another SESSION: nothing AWAITED, nothing OPEN, no ROLE, and all else stays");
        RightsSteps x = Checks.withLevel(7, 0, 2, 100);
        Checks.dueWrong(x, 7, 1001, 5, -53);
        int key = Checks.keyTo(0, 7, 1002);
        x.key(7, (byte) (key >> 24), false);
        x.key(7, (byte) (key >> 16), false);
        x.session(2);
        Checks.dueOut(x, 1001);
        Checks.due("the time stays", x.seed(7, 4), -2);
        Checks.due("the log stays", x.log(-1, 0), 2);
        Checks.giveSeed(x, 7, 1002, 5);
        x.key(7, (byte) (key >> 8), false);
        Checks.due("octets stay", x.key(7, (byte) key, true), 1);
        x.session(2);
        Checks.dueWrong(x, 7, 1003, 5, -53);
        x.session(3);
        Checks.dueWrong(x, 7, 1004, 5, -54);
        x.session(2);
        Checks.due("the lock stays", x.left(7, 5), 100);
        Checks.due("the lock counts", x.seed(7, 104), -55);
        x.tape(1004);
        Checks.due("what was given stays given", x.seed(7, 105), -34);
    }

    private static void promise8OfTheTesterAtHand() {
        Checks.sentence(8, "a SESSION is each TESTER's own");
        RightsSteps x = Checks.withLevel(7, 0, 1, 0);
        Checks.openIt(x, 7, 1001, 0);
        Checks.due("tester(2)", x.tester(2), 1);
        Checks.due("session of 2", x.session(2), 1);
        Checks.due("session of 2 again", x.session(3), 2);
        Checks.due("tester(1)", x.tester(1), 2);
        Checks.due("7 is open yet", x.open(7), 1);
        Checks.due("session of 1", x.session(1), 3);
    }

    private static void promise9HowManyWereOpen() {
        Checks.sentence(9, "how many LEVELS were OPEN, of all TESTERS");
        for (int opened = 0; opened <= 4; opened++) {
            RightsSteps x = new RightsSteps();
            x.level(7, 0, 1, 0);
            x.level(8, 0, 1, 0);
            for (int n = 4; n > 4 - opened; n--) {
                x.tester(n);
                Checks.giveRights(x);
                Checks.openIt(x, n == 3 ? 8 : 7, 1000 + n, 0);
            }
            x.tester(1);
            Checks.due("reset() with " + opened, x.reset(), opened);
            Checks.due("reset() again", x.reset(), 0);
        }
    }

    private static void promise9ThatForAllTesters() {
        Checks.sentence(9, "A RESET: nothing AWAITED, nothing OPEN, no ROLE for all TESTERS, with SESSION 1");
        for (int atHand = 1; atHand <= 4; atHand++) {
            RightsSteps x = new RightsSteps();
            x.level(7, 0, 1, 0);
            x.level(8, 0, 1, 0);
            x.level(11, 0, 1, 0);
            for (int n = 1; n <= 4; n++) {
                x.tester(n);
                Checks.giveRights(x);
                Checks.openIt(x, 7, 1000 + n, 0);
                Checks.giveSeed(x, 8, 2000 + n, 0);
            }
            x.tester(atHand);
            Checks.due("reset()", x.reset(), 4);
            for (int n = 1; n <= 4; n++) {
                x.tester(n);
                Checks.due("open(7) of " + n, x.open(7), 0);
                Checks.due("a key of " + n, Checks.sendKey(x, 8, Checks.keyTo(0, 8, 2000 + n)), -36);
                Checks.due("seed(7, 0) of " + n, x.seed(7, 0), -18);
                Checks.due("session(3) of " + n, x.session(3), 1);
                x.reset();
                Checks.due("session(3) of " + n + " behind another reset", x.session(3), 1);
                Checks.due("seed(11, 0) of " + n, x.seed(11, 0), -51);
            }
        }
        dueRolesAreGone();
    }

    /** The sessions stay the first here, so that only a reset can have taken the role. */
    private static void dueRolesAreGone() {
        RightsSteps x = new RightsSteps();
        x.level(11, 0, 1, 0);
        x.role(1, true, 100);
        x.reset();
        Checks.due("not for session 1", x.seed(11, 0), -18);
        x.session(3);
        Checks.due("no role", x.seed(11, 0), -51);
    }

    private static void promise9OctetsAreGone() {
        Checks.sentence(9, "octets of keys are gone");
        for (int octets = 0; octets <= 5; octets++) {
            RightsSteps x = Checks.withLevel(7, 0, 1, 0);
            for (int n = 1; n <= 4; n++) {
                x.tester(n);
                for (int i = 0; i < octets; i++) {
                    x.key(7, (byte) 9, false);
                }
            }
            x.reset();
            for (int n = 1; n <= 4; n++) {
                x.tester(n);
                Checks.giveRights(x);
                Checks.openIt(x, 7, 1000 + n, 0);
            }
        }
    }

    private static void promise9NoSeedCountsAsGiven() {
        Checks.sentence(9, "no seed counts as GIVEN");
        RightsSteps x = Checks.withLevel(7, 0, 1, 0);
        for (int seed = 1001; seed <= 1003; seed++) {
            Checks.giveSeed(x, 7, seed, 0);
        }
        x.tape(1001);
        Checks.due("before the reset", x.seed(7, 0), -34);
        x.reset();
        Checks.giveRights(x);
        for (int seed = 1003; seed >= 1001; seed--) {
            Checks.giveSeed(x, 7, seed, 0);
            x.tape(seed);
            Checks.due("since the reset", x.seed(7, 0), -34);
        }
    }

    private static void promise9LockedAndTriesStay() {
        Checks.sentence(9, "what is LOCKED, and TRIES that are used, stay");
        RightsSteps x = Checks.withLevel(7, 0, 2, 100);
        x.level(8, 0, 3, 100);
        for (int n = 1; n <= 4; n++) {
            x.tester(n);
            Checks.giveRights(x);
            Checks.dueWrong(x, 7, 1000 + 10 * n, 5, -53);
            Checks.dueWrong(x, 7, 1001 + 10 * n, 5, -54);
            Checks.dueWrong(x, 8, 1002 + 10 * n, 5, -53);
        }
        x.reset();
        for (int n = 1; n <= 4; n++) {
            x.tester(n);
            Checks.giveRights(x);
            Checks.due("left(7, 5) of " + n, x.left(7, 5), 100);
            Checks.due("seed(7, 5) of " + n, x.seed(7, 5), -55);
            Checks.dueWrong(x, 8, 2000 + n, 5, -53);
            Checks.dueWrong(x, 8, 2010 + n, 5, -54);
        }
        Checks.due("one below the end", x.seed(7, 104), -55);
        Checks.due("at the end", x.seed(7, 105), -34);
    }

    private static void promise9WhatElseStays() {
        Checks.sentence(9, "A RESET: levels, tape, time, log and the tester at hand stay");
        RightsSteps x = Checks.withLevel(7, 0, 1, 0);
        x.tester(3);
        Checks.giveRights(x);
        Checks.giveSeed(x, 7, 1001, 9);
        x.tape(1002);
        x.reset();
        Checks.due("tester(3)", x.tester(3), 3);
        Checks.due("level(7)", x.level(7, 0, 1, 0), -3);
        Checks.due("open(7)", x.open(7), 0);
        Checks.due("log(-1, 0)", x.log(-1, 0), 1);
        Checks.due("log(0, 0)", x.log(0, 0), 3);
        Checks.due("log(0, 2)", x.log(0, 2), 4);
        Checks.due("one below the time", x.seed(7, 8), -2);
        x.session(2);
        Checks.due("at the time", x.seed(7, 9), 4);
        Checks.dueOut(x, 1002);
    }

    private static void promise10OneToEight() {
        Checks.sentence(10, "A ROLE, 1 to 8; -1 there is no such ROLE");
        int[] none = {Integer.MIN_VALUE, -1, 0, 9, 10, 257, Integer.MAX_VALUE};
        for (int i = 0; i < none.length; i++) {
            RightsSteps x = new RightsSteps();
            x.level(11, 0, 1, 0);
            x.session(3);
            Checks.due("role(" + none[i] + ")", x.role(none[i], true, 5), -1);
            Checks.due("none is had by " + none[i], x.seed(11, 0), -51);
        }
        for (int role = 1; role <= 8; role++) {
            RightsSteps x = new RightsSteps();
            x.level(11, 0, 1, 0);
            x.session(3);
            Checks.due("role(" + role + ")", x.role(role, true, 5), 1);
            Checks.due("it is had by " + role, x.seed(11, 0), -34);
        }
    }

    private static void promise10UnknownBeforeVerdict() {
        Checks.sentence(10, "-1 before 0, and it changes nothing");
        RightsSteps x = Checks.withLevel(11, 0, 1, 0);
        int[] none = {0, 9};
        for (int i = 0; i < none.length; i++) {
            Checks.due("not good", x.role(none[i], false, 5), -1);
            Checks.due("not above", x.role(none[i], true, 0), -1);
            Checks.due("neither", x.role(none[i], false, -1), -1);
            Checks.due("good", x.role(none[i], true, 1), -1);
        }
        Checks.due("the role stays", x.seed(11, 1000), -34);
    }

    private static void promise10AboveTheTime() {
        Checks.sentence(10, "0 if that is not above the TIME");
        long[] times = {0, 1, 1000, 1L << 32, Checks.LATEST - 1, Checks.LATEST};
        for (int i = 0; i < times.length; i++) {
            RightsSteps x = new RightsSteps();
            x.level(11, 0, 1, 0);
            x.session(3);
            Checks.due("to the time", x.seed(11, times[i]), -51);
            Checks.due("one below", x.role(1, true, times[i] - 1), 0);
            Checks.due("at it", x.role(1, true, times[i]), 0);
            Checks.due("none is had", x.seed(11, times[i]), -51);
            Checks.due("one above", x.role(1, true, times[i] + 1), 1);
            Checks.due("it is had", x.seed(11, times[i]), -34);
        }
    }

    private static void promise10AnyUntil() {
        Checks.sentence(10, "it is had until a time, also one above 2^60");
        long[] until = {Checks.LATEST - 1, Checks.LATEST, Checks.LATEST + 1, Long.MAX_VALUE};
        for (int i = 0; i < until.length; i++) {
            RightsSteps x = new RightsSteps();
            x.level(11, 0, 1, 0);
            x.session(3);
            Checks.due("least", x.role(1, true, Long.MIN_VALUE), 0);
            Checks.due("until " + until[i], x.role(1, true, until[i]), 1);
            Checks.due("two below 2^60", x.seed(11, Checks.LATEST - 2), -34);
            Checks.due("at 2^60", x.seed(11, Checks.LATEST), until[i] > Checks.LATEST ? -34 : -51);
        }
    }

    private static void promise10VerdictNotGood() {
        Checks.sentence(10, "0 if the verdict is not good");
        RightsSteps x = new RightsSteps();
        x.level(11, 0, 1, 0);
        x.session(3);
        for (int role = 1; role <= 8; role++) {
            Checks.due("role " + role, x.role(role, false, 5), 0);
            Checks.due("role " + role + ", the most", x.role(role, false, Long.MAX_VALUE), 0);
            Checks.due("none is had", x.seed(11, 0), -51);
        }
        Checks.due("good", x.role(1, true, 5), 1);
        Checks.due("not good, the same role", x.role(1, false, 9), 0);
        Checks.due("not good, another role", x.role(2, false, 9), 0);
        Checks.due("not above the time", x.role(2, true, 0), 0);
        Checks.due("the one that is had stays", x.seed(11, 4), -34);
        Checks.due("to its end", x.seed(11, 5), -51);
    }

    private static void promise10ValidUntil() {
        Checks.sentence(10, "valid as long as the TIME is less than what it was given until");
        long[] ends = {1, 2, 1000, 1L << 32, Checks.LATEST};
        for (int i = 0; i < ends.length; i++) {
            RightsSteps x = new RightsSteps();
            x.level(20, 0, 1, 0);
            x.session(3);
            x.role(8, true, ends[i]);
            Checks.due("at 0", x.seed(20, 0), -34);
            Checks.due("one below", x.seed(20, ends[i] - 1), -34);
            Checks.due("at it", x.seed(20, ends[i]), -51);
            Checks.due("one above", x.seed(20, ends[i] + 1), ends[i] == Checks.LATEST ? -2 : -51);
        }
    }

    private static void promise10TheLastOne() {
        Checks.sentence(10, "a TESTER has one at most, the last one");
        RightsSteps x = new RightsSteps();
        x.level(11, 0, 1, 0);
        x.session(3);
        Checks.due("role 1 until 50", x.role(1, true, 50), 1);
        Checks.due("role 2 until 10", x.role(2, true, 10), 1);
        Checks.due("one below the last one's end", x.seed(11, 9), -34);
        Checks.due("at the last one's end", x.seed(11, 10), -51);
        Checks.due("role 2 until 12", x.role(2, true, 12), 1);
        Checks.due("role 2 until 20", x.role(2, true, 20), 1);
        Checks.due("the longer one is the last", x.seed(11, 19), -34);
        Checks.due("at its end", x.seed(11, 20), -51);
    }

    private static void promise10OfTheTesterAtHand() {
        Checks.sentence(10, "a ROLE is each TESTER's own");
        RightsSteps x = new RightsSteps();
        x.level(11, 0, 1, 0);
        for (int n = 1; n <= 4; n++) {
            x.tester(n);
            x.session(3);
        }
        x.tester(2);
        x.role(1, true, 10);
        for (int n = 1; n <= 4; n++) {
            x.tester(n);
            Checks.due("seed(11, 0) of " + n, x.seed(11, 0), n == 2 ? -34 : -51);
        }
    }

    private static void promise12NoneAtFirst() {
        Checks.sentence(12, "how many there were; -1 there is none (the log is empty)");
        RightsSteps x = new RightsSteps();
        Checks.due("log(-1, 0)", x.log(-1, 0), 0);
        for (int i = -2; i <= 1; i++) {
            for (int what = -1; what <= 3; what++) {
                if (i != -1 || what != 0) {
                    Checks.due("log(" + i + ", " + what + ")", x.log(i, what), -1);
                }
            }
        }
    }

    private static void promise12FromZeroToTheLast() {
        Checks.sentence(12, "Use i (from 0); -1 there is none");
        RightsSteps x = new RightsSteps();
        for (int n = 1; n <= 20; n++) {
            x.level(n, 0, 1, 0);
        }
        for (int uses = 1; uses <= 20; uses++) {
            x.seed(uses, 0);
            Checks.due("log(-2, 0)", x.log(-2, 0), -1);
            Checks.due("log(-1, 0)", x.log(-1, 0), uses);
            Checks.due("log(0, 1)", x.log(0, 1), 1);
            Checks.due("the last one", x.log(uses - 1, 1), uses);
            Checks.due("one behind", x.log(uses, 1), -1);
            Checks.due("two behind", x.log(uses + 1, 1), -1);
        }
        Checks.due("log(least, 0)", x.log(Integer.MIN_VALUE, 0), -1);
        Checks.due("log(most, 0)", x.log(Integer.MAX_VALUE, 0), -1);
        Checks.due("log(2^30, 2)", x.log(1 << 30, 2), -1);
    }

    private static void promise12TheFirstThreeHundred() {
        Checks.sentence(12, "the first 300");
        RightsSteps x = new RightsSteps();
        x.level(1, 0, 1, 0);
        x.level(2, 0, 1, 0);
        for (int i = 0; i < 299; i++) {
            x.seed(1, i);
        }
        Checks.due("use 298", x.log(298, 1), 1);
        Checks.due("use 299 is not yet", x.log(299, 1), -1);
        x.session(2);
        Checks.due("the 300th", x.seed(2, 299), -34);
        Checks.due("use 299, tester", x.log(299, 0), 1);
        Checks.due("use 299, level", x.log(299, 1), 2);
        Checks.due("use 299, answer", x.log(299, 2), -34);
        Checks.due("the 301st", x.seed(1, 300), -34);
        Checks.due("use 300", x.log(300, 0), -1);
        Checks.due("use 301", x.log(301, 0), -1);
        Checks.due("use 299 is as before", x.log(299, 1), 2);
        Checks.due("use 0 is as before", x.log(0, 2), -18);
        Checks.due("a key behind them", x.key(2, (byte) 0, true), -19);
        Checks.due("use 300 yet", x.log(300, 2), -1);
        x.reset();
        Checks.due("use 299 behind a reset", x.log(299, 2), -34);
        Checks.due("use 300 behind a reset", x.log(300, 2), -1);
    }

    private static void promise12HowManyThereWere() {
        Checks.sentence(12, "i = -1 with what = 0: how many there were");
        RightsSteps x = new RightsSteps();
        x.level(1, 0, 1, 0);
        for (int i = 1; i <= 298; i++) {
            x.seed(1, 0);
        }
        for (int uses = 299; uses <= 303; uses++) {
            x.seed(1, 0);
            Checks.due("behind " + uses, x.log(-1, 0), uses);
        }
        x.reset();
        Checks.due("behind a reset", x.log(-1, 0), 303);
    }

    private static void promise12WhatZeroToTwo() {
        Checks.sentence(12, "what = 0 the TESTER, 1 the LEVEL, 2 what it answered; -2 no such what");
        RightsSteps x = new RightsSteps();
        x.level(7, 0, 1, 0);
        x.level(8, 0, 1, 0);
        x.tester(3);
        x.seed(7, 0);
        x.tester(4);
        x.key(8, (byte) 0, true);
        int[][] rows = {{3, 7, -18}, {4, 8, -19}};
        int[] none = {Integer.MIN_VALUE, -2, -1, 3, 4, Integer.MAX_VALUE};
        for (int i = 0; i < rows.length; i++) {
            for (int what = 0; what <= 2; what++) {
                Checks.due("log(" + i + ", " + what + ")", x.log(i, what), rows[i][what]);
            }
            for (int j = 0; j < none.length; j++) {
                Checks.due("log(" + i + ", " + none[j] + ")", x.log(i, none[j]), -2);
            }
        }
    }

    private static void promise12NoneBeforeNoSuchWhat() {
        Checks.sentence(12, "the first that fits: -1 there is none, -2 no such what");
        RightsSteps x = new RightsSteps();
        x.level(7, 0, 1, 0);
        x.seed(7, 0);
        int[] none = {Integer.MIN_VALUE, -2, 1, 2, 300, Integer.MAX_VALUE};
        for (int i = 0; i < none.length; i++) {
            Checks.due("log(" + none[i] + ", -1)", x.log(none[i], -1), -1);
            Checks.due("log(" + none[i] + ", 3)", x.log(none[i], 3), -1);
        }
        int[] whats = {Integer.MIN_VALUE, -1, 1, 2, 3, Integer.MAX_VALUE};
        for (int i = 0; i < whats.length; i++) {
            Checks.due("log(-1, " + whats[i] + ")", x.log(-1, whats[i]), -1);
        }
    }

    private static void promise12ButForRefusals() {
        Checks.sentence(12, "of seed() and of key() with a last octet, but for -1 and -2");
        RightsSteps x = new RightsSteps();
        x.level(7, 0, 1, 0);
        x.seed(0, 0);
        x.seed(8, 0);
        x.seed(21, 0);
        x.seed(7, -1);
        x.seed(7, Checks.LATEST + 1);
        x.key(7, (byte) 1, false);
        x.key(8, (byte) 1, false);
        x.key(8, (byte) 1, true);
        x.key(0, (byte) 1, true);
        x.key(21, (byte) 1, true);
        Checks.due("no use", x.log(-1, 0), 0);
        Checks.due("no first one", x.log(0, 0), -1);
        x.tape(1001);
        x.open(7);
        x.left(7, 0);
        x.role(1, true, 5);
        x.session(2);
        x.out(0);
        x.digit(0);
        x.log(0, 0);
        x.level(8, 0, 1, 0);
        x.level(8, 0, 1, 0);
        x.reset();
        x.tester(1);
        Checks.due("no use by other calls", x.log(-1, 0), 0);
        x.seed(7, 0);
        x.key(7, (byte) 1, true);
        Checks.due("a use by each of these", x.log(-1, 0), 2);
    }

    private static void promise12EachAnswer() {
        Checks.sentence(12, "what = 2 what it answered");
        RightsSteps x = new RightsSteps();
        x.level(7, 0, 2, 50);
        x.level(11, 0, 2, 50);
        x.seed(7, 0);
        x.session(3);
        x.seed(11, 0);
        x.seed(7, 0);
        x.key(7, (byte) 0, true);
        Checks.sendKey(x, 7, 5);
        Checks.openIt(x, 7, 1001, 0);
        x.seed(7, 0);
        x.session(3);
        Checks.dueWrong(x, 7, 1002, 0, -53);
        Checks.dueWrong(x, 7, 1003, 0, -54);
        x.seed(7, 0);
        int[] answers = {-18, -51, -34, -19, -36, 4, 1, 4, 4, -53, 4, -54, -55};
        Checks.due("how many", x.log(-1, 0), answers.length);
        for (int i = 0; i < answers.length; i++) {
            Checks.due("log(" + i + ", 0)", x.log(i, 0), 1);
            Checks.due("log(" + i + ", 1)", x.log(i, 1), i == 1 ? 11 : 7);
            Checks.due("log(" + i + ", 2)", x.log(i, 2), answers[i]);
        }
    }

    private static void promise12TheLogIsForAll() {
        Checks.sentence(12, "the LOG is for all; what = 0 the TESTER");
        RightsSteps x = new RightsSteps();
        x.level(7, 0, 1, 0);
        for (int n = 4; n >= 1; n--) {
            x.tester(n);
            x.seed(7, 0);
        }
        for (int n = 1; n <= 4; n++) {
            x.tester(n);
            Checks.due("log(-1, 0) for " + n, x.log(-1, 0), 4);
            for (int i = 0; i < 4; i++) {
                Checks.due("log(" + i + ", 0) for " + n, x.log(i, 0), 4 - i);
            }
        }
    }

    private static void promise14OneToFour() {
        Checks.sentence(14, "TESTERS are 1 to 4; -2 there is none");
        RightsSteps x = new RightsSteps();
        int[] none = {Integer.MIN_VALUE, -1, 0, 5, 6, 257, Integer.MAX_VALUE};
        for (int n = 1; n <= 4; n++) {
            Checks.due("tester(" + n + ")", x.tester(n), n == 1 ? 1 : n - 1);
            for (int i = 0; i < none.length; i++) {
                Checks.due("tester(" + none[i] + ")", x.tester(none[i]), -2);
            }
        }
        Checks.due("it is 4 yet", x.tester(1), 4);
    }

    private static void promise14WhichItWas() {
        Checks.sentence(14, "The TESTER AT HAND from now on: which it was (at first 1)");
        for (int before = 1; before <= 4; before++) {
            for (int next = 1; next <= 4; next++) {
                RightsSteps x = new RightsSteps();
                Checks.due("tester(" + before + ") at first", x.tester(before), 1);
                Checks.due("tester(" + next + ")", x.tester(next), before);
                Checks.due("tester(1) behind both", x.tester(1), next);
            }
        }
    }

    /** Each tester comes to a state of its own, and finds it as it was when all have come to theirs. */
    private static void promise14EachTestersOwn() {
        Checks.sentence(14, "all else is each TESTER's own, and only that of the one AT HAND is looked at");
        RightsSteps x = new RightsSteps();
        for (int n = 1; n <= 4; n++) {
            x.level(n, 0, 1, 0);
        }
        x.level(9, 0, 4, 10);
        x.level(11, 0, 1, 0);
        int[] keys = new int[5];
        for (int n = 1; n <= 4; n++) {
            x.tester(n);
            x.session(3);
            x.role(n, true, 10 * n);
            Checks.openIt(x, n, 1000 + n, 0);
            for (int i = 1; i < n; i++) {
                Checks.dueWrong(x, 9, 2000 + 10 * n + i, 0, -53);
            }
            Checks.giveSeed(x, 9, 3000 + n, 0);
            keys[n] = Checks.keyTo(0, 9, 3000 + n) ^ 1;
            for (int i = 1; i < n; i++) {
                x.key(9, (byte) (keys[n] >> (32 - 8 * i)), false);
            }
        }
        for (int n = 1; n <= 4; n++) {
            x.tester(n);
            Checks.dueOut(x, 3000 + n);
            for (int level = 1; level <= 4; level++) {
                Checks.due("open(" + level + ") of " + n, x.open(level), level == n ? 1 : 0);
            }
            for (int i = n; i < 4; i++) {
                x.key(9, (byte) (keys[n] >> (32 - 8 * i)), false);
            }
            Checks.due("the last octet of " + n, x.key(9, (byte) keys[n], true), n == 4 ? -54 : -53);
            Checks.due("left(9, the time) of " + n, x.left(9, 10 * (n - 1)), n == 4 ? 10 : 0);
            Checks.due("one below the role's end of " + n, x.seed(11, 10 * n - 1), -34);
            Checks.due("at the role's end of " + n, x.seed(11, 10 * n), -51);
            Checks.due("session of " + n, x.session(2), 3);
        }
    }

    private static void promise14TheSameOne() {
        Checks.sentence(14, "The TESTER AT HAND from now on: also the same one, who finds all as it was");
        for (int n = 1; n <= 4; n++) {
            RightsSteps x = Checks.withLevel(7, 0, 1, 0);
            x.level(11, 0, 1, 0);
            x.tester(n);
            Checks.giveRights(x);
            Checks.openIt(x, 7, 1001, 0);
            Checks.giveSeed(x, 11, 1002, 0);
            int key = Checks.keyTo(0, 11, 1002);
            x.key(11, (byte) (key >> 24), false);
            x.key(11, (byte) (key >> 16), false);
            Checks.due("the same one", x.tester(n), n);
            Checks.dueOut(x, 1002);
            Checks.due("open(7)", x.open(7), 1);
            x.key(11, (byte) (key >> 8), false);
            Checks.due("the last octet", x.key(11, (byte) key, true), 1);
            Checks.due("the role", x.seed(11, 0), 4);
            Checks.due("the session", x.session(1), 3);
        }
    }

    private static void promise14AwaitedOfOneAlone() {
        Checks.sentence(14, "what is AWAITED is each TESTER's own");
        RightsSteps x = Checks.withLevel(7, 0, 1, 0);
        for (int n = 1; n <= 4; n++) {
            x.tester(n);
            Checks.giveRights(x);
        }
        for (int asking = 1; asking <= 4; asking++) {
            x.tester(asking);
            Checks.giveSeed(x, 7, 1000 + asking, 0);
            int key = Checks.keyTo(0, 7, 1000 + asking);
            for (int n = 1; n <= 4; n++) {
                x.tester(n);
                Checks.due("the key by " + n, Checks.sendKey(x, 7, key), n == asking ? 1 : -36);
                Checks.due("open(7) of " + n, x.open(7), n <= asking ? 1 : 0);
            }
        }
    }

    private static void promise14ForAll() {
        Checks.sentence(14, "LEVELS, the TAPE, the seeds that were GIVEN, the TIME and the LOG are for all");
        RightsSteps x = Checks.withLevel(7, 0, 1, 0);
        for (int n = 1; n <= 4; n++) {
            x.tester(n);
            Checks.giveRights(x);
            Checks.due("levels, for " + n, x.open(7), 0);
            if (n > 1) {
                Checks.due("time, for " + n, x.seed(7, n - 2), -2);
                x.tape(999 + n);
                Checks.due("given, for " + n, x.seed(7, n), -34);
            }
            Checks.giveSeed(x, 7, 1000 + n, n);
            x.tape(1000 + n);
            x.tape(2000 + n);
            x.tester(1);
            Checks.due("tape, for 1 behind " + n, x.seed(7, n), 4);
            Checks.dueOut(x, 2000 + n);
            Checks.due("log, for 1 behind " + n, x.log(-1, 0), 3 * n - 1);
        }
    }
}
