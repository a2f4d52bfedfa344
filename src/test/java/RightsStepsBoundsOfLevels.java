// Levels at their bounds: promises 1, 2 and 7, and what "Terms" says of levels.
public final class RightsStepsBoundsOfLevels {
    private static final int[] NO_LEVELS = {Integer.MIN_VALUE, -1, 0, 21, 22, 32, 256, Integer.MAX_VALUE};

    public static void main(String[] args) {
        promise1NoLevels();
        promise1EmptyTape();
        promise1AllAtFirst();
        promise2LevelsOneToTwenty();
        promise2KindZeroToTwo();
        promise2TriesOneToTen();
        promise2DelayZeroToHundredThousand();
        promise2MadeOnce();
        promise2HowManyThereAre();
        promise2UnknownBeforeRange();
        promise2RangeBeforeState();
        promise2TheFirstMakingCounts();
        promise2LevelsAreForAll();
        promise7OneOrZero();
        promise7NotMade();
        promise7OneOpenAtMost();
        promise7OfTheTesterAtHand();
        Checks.finish();
    }

    private static void promise1NoLevels() {
        Checks.sentence(1, "No LEVELS");
        RightsSteps x = new RightsSteps();
        for (int n = -1; n <= 22; n++) {
            Checks.due("open(" + n + ")", x.open(n), -1);
            Checks.due("seed(" + n + ", 0)", x.seed(n, 0), -1);
            Checks.due("left(" + n + ", 0)", x.left(n, 0), -1);
            Checks.due("key(" + n + ", 0, true)", x.key(n, (byte) 0, true), -1);
        }
        Checks.due("the first level", x.level(1, 0, 1, 0), 1);
        Checks.due("open(1)", x.open(1), 0);
        Checks.due("open(2)", x.open(2), -1);
    }

    private static void promise1EmptyTape() {
        Checks.sentence(1, "an empty TAPE");
        RightsSteps x = Checks.withLevel(1, 0, 1, 0);
        Checks.due("seed of no number", x.seed(1, 0), -34);
        x.tape(1001);
        Checks.due("seed of one number", x.seed(1, 0), 4);
        Checks.due("seed of no number again", x.seed(1, 0), -34);
    }

    private static void promise1AllAtFirst() {
        Checks.sentence(1, "at first: tester 1, session 1, the time 0, no use, OUT 0");
        RightsSteps x = new RightsSteps();
        Checks.dueOut(x, 0);
        Checks.dueDigits(x, "0");
        Checks.due("log(-1, 0)", x.log(-1, 0), 0);
        Checks.due("log(0, 0)", x.log(0, 0), -1);
        Checks.due("role until 0", x.role(1, true, 0), 0);
        Checks.due("role until 1", x.role(1, true, 1), 1);
        for (int n = 1; n <= 4; n++) {
            Checks.due("tester(" + n + ")", x.tester(n), n == 1 ? 1 : n - 1);
            Checks.due("session of tester " + n, x.session(3), 1);
        }
        Checks.due("reset()", x.reset(), 0);
    }

    private static void promise2LevelsOneToTwenty() {
        Checks.sentence(2, "LEVELS are 1 to 20; -1 there is no such number");
        RightsSteps x = new RightsSteps();
        for (int i = 0; i < NO_LEVELS.length; i++) {
            Checks.due("level(" + NO_LEVELS[i] + ")", x.level(NO_LEVELS[i], 0, 1, 0), -1);
        }
        int[] made = {1, 2, 19, 20};
        for (int i = 0; i < made.length; i++) {
            Checks.due("level(" + made[i] + ")", x.level(made[i], 0, 1, 0), i + 1);
            Checks.due("open(" + made[i] + ")", x.open(made[i]), 0);
        }
        Checks.due("level(0) behind them", x.level(0, 0, 1, 0), -1);
        Checks.due("level(21) behind them", x.level(21, 0, 1, 0), -1);
        Checks.due("open(18)", x.open(18), -1);
        Checks.due("open(3)", x.open(3), -1);
    }

    private static void promise2KindZeroToTwo() {
        Checks.sentence(2, "a KIND of key 0 to 2; -2 KIND, TRIES or DELAY are none");
        RightsSteps x = new RightsSteps();
        int[] none = {Integer.MIN_VALUE, -1, 3, 4, 256, Integer.MAX_VALUE};
        for (int i = 0; i < none.length; i++) {
            Checks.due("kind " + none[i], x.level(5, none[i], 1, 0), -2);
        }
        for (int kind = 0; kind <= 2; kind++) {
            Checks.due("kind " + kind, x.level(5 + kind, kind, 1, 0), kind + 1);
        }
    }

    private static void promise2TriesOneToTen() {
        Checks.sentence(2, "TRIES (1 .. 10); -2 KIND, TRIES or DELAY are none");
        RightsSteps x = new RightsSteps();
        int[] none = {Integer.MIN_VALUE, -1, 0, 11, 12, 257, Integer.MAX_VALUE};
        for (int i = 0; i < none.length; i++) {
            Checks.due("tries " + none[i], x.level(5, 0, none[i], 0), -2);
        }
        int[] some = {1, 2, 9, 10};
        for (int i = 0; i < some.length; i++) {
            Checks.due("tries " + some[i], x.level(5 + i, 0, some[i], 0), i + 1);
        }
    }

    private static void promise2DelayZeroToHundredThousand() {
        Checks.sentence(2, "a DELAY (0 .. 100000); -2 KIND, TRIES or DELAY are none");
        RightsSteps x = new RightsSteps();
        long[] none = {Long.MIN_VALUE, -(1L << 32), -2, -1, 100001, 100002, 1L << 32, (1L << 32) + 5, Long.MAX_VALUE};
        for (int i = 0; i < none.length; i++) {
            Checks.due("delay " + none[i], x.level(5, 0, 1, none[i]), -2);
        }
        long[] some = {0, 1, 99999, 100000};
        for (int i = 0; i < some.length; i++) {
            Checks.due("delay " + some[i], x.level(5 + i, 0, 1, some[i]), i + 1);
        }
    }

    private static void promise2MadeOnce() {
        Checks.sentence(2, "each may be made, once; -3 it was made");
        RightsSteps x = new RightsSteps();
        for (int n = 1; n <= 20; n++) {
            Checks.due("level(" + n + ") the first time", x.level(n, 1, 2, 3), n);
            Checks.due("level(" + n + ") the second time", x.level(n, 1, 2, 3), -3);
            Checks.due("level(" + n + ") the third time", x.level(n, 0, 1, 0), -3);
        }
        x.reset();
        x.session(3);
        Checks.due("level(1) behind a reset", x.level(1, 1, 2, 3), -3);
        Checks.due("level(20) behind a reset", x.level(20, 1, 2, 3), -3);
    }

    private static void promise2HowManyThereAre() {
        Checks.sentence(2, "A LEVEL is made: how many there are");
        RightsSteps x = new RightsSteps();
        for (int made = 1; made <= 20; made++) {
            x.level(0, 0, 1, 0);
            x.level(21 - made, 3, 1, 0);
            Checks.due("level(" + (21 - made) + ")", x.level(21 - made, 0, 1, 0), made);
            x.level(21 - made, 0, 1, 0);
        }
    }

    private static void promise2UnknownBeforeRange() {
        Checks.sentence(2, "the first that fits: -1 an unknown number, -2 outside a range");
        RightsSteps x = new RightsSteps();
        for (int i = 0; i < NO_LEVELS.length; i++) {
            Checks.due("number and kind", x.level(NO_LEVELS[i], 3, 1, 0), -1);
            Checks.due("number and tries", x.level(NO_LEVELS[i], 0, 0, 0), -1);
            Checks.due("number and delay", x.level(NO_LEVELS[i], 0, 1, -1), -1);
        }
    }

    private static void promise2RangeBeforeState() {
        Checks.sentence(2, "the first that fits: -2 outside a range, -3 not in this state");
        RightsSteps x = Checks.withLevel(20, 2, 10, 100000);
        Checks.due("made, kind", x.level(20, 3, 10, 100000), -2);
        Checks.due("made, tries", x.level(20, 2, 11, 100000), -2);
        Checks.due("made, delay", x.level(20, 2, 10, 100001), -2);
        Checks.due("made", x.level(20, 2, 10, 100000), -3);
    }

    private static void promise2TheFirstMakingCounts() {
        Checks.sentence(2, "REFUSALS change nothing");
        RightsSteps x = Checks.withLevel(5, 0, 2, 7);
        x.level(5, 1, 1, 9);
        x.level(5, 3, 1, 9);
        Checks.openIt(x, 5, 1001, 0);
        x.session(3);
        Checks.dueWrong(x, 5, 1002, 0, -53);
        Checks.dueWrong(x, 5, 1003, 0, -54);
        Checks.due("left(5, 0)", x.left(5, 0), 7);
        Checks.due("open(6)", x.open(6), -1);
        x.level(6, 3, 1, 0);
        Checks.due("open(6) behind a refusal", x.open(6), -1);
    }

    private static void promise2LevelsAreForAll() {
        Checks.sentence(2, "LEVELS are for all");
        RightsSteps x = Checks.withLevel(5, 0, 1, 0);
        for (int n = 1; n <= 4; n++) {
            x.tester(n);
            Checks.due("open(5) of tester " + n, x.open(5), 0);
            Checks.due("level(5) of tester " + n, x.level(5, 0, 1, 0), -3);
            Checks.due("level of tester " + n, x.level(5 + n, 0, 1, 0), 1 + n);
        }
    }

    private static void promise7OneOrZero() {
        Checks.sentence(7, "Whether a LEVEL is OPEN: 1 or 0; at first none is");
        int[] levels = {1, 2, 10, 11, 19, 20};
        for (int i = 0; i < levels.length; i++) {
            int n = levels[i];
            RightsSteps x = Checks.withLevel(n, 0, 2, 0);
            Checks.due("open(" + n + ") at first", x.open(n), 0);
            Checks.giveSeed(x, n, 1001, 0);
            Checks.due("open(" + n + ") with a seed", x.open(n), 0);
            Checks.due("a wrong key", Checks.sendKey(x, n, 5), -53);
            Checks.due("open(" + n + ") behind a wrong key", x.open(n), 0);
            Checks.openIt(x, n, 1002, 0);
            Checks.due("open(" + n + ") behind the right key", x.open(n), 1);
            Checks.due("open(" + n + ") again", x.open(n), 1);
        }
    }

    private static void promise7NotMade() {
        Checks.sentence(7, "-1 it was not made");
        RightsSteps x = Checks.withLevel(10, 0, 1, 0);
        Checks.openIt(x, 10, 1001, 0);
        Checks.due("open(9)", x.open(9), -1);
        Checks.due("open(10)", x.open(10), 1);
        Checks.due("open(11)", x.open(11), -1);
        for (int n = 1; n <= 20; n++) {
            x.level(n, 0, 1, 0);
        }
        for (int i = 0; i < NO_LEVELS.length; i++) {
            Checks.due("open(" + NO_LEVELS[i] + ")", x.open(NO_LEVELS[i]), -1);
        }
        for (int n = 1; n <= 20; n++) {
            Checks.due("open(" + n + ")", x.open(n), n == 10 ? 1 : 0);
        }
    }

    private static void promise7OneOpenAtMost() {
        Checks.sentence(7, "a TESTER has one OPEN at most");
        RightsSteps x = Checks.withRights();
        for (int n = 1; n <= 20; n++) {
            x.level(n, 0, 1, 0);
        }
        int[] opened = {1, 20, 10, 11, 1};
        for (int i = 0; i < opened.length; i++) {
            Checks.openIt(x, opened[i], 1001 + i, 0);
            for (int n = 1; n <= 20; n++) {
                Checks.due("open(" + n + ") with " + opened[i], x.open(n), n == opened[i] ? 1 : 0);
            }
        }
        Checks.due("reset()", x.reset(), 1);
    }

    private static void promise7OfTheTesterAtHand() {
        Checks.sentence(7, "only that of the one AT HAND is looked at");
        RightsSteps x = Checks.withLevel(5, 0, 1, 0);
        Checks.openIt(x, 5, 1001, 0);
        for (int n = 1; n <= 4; n++) {
            x.tester(n);
            Checks.due("open(5) of tester " + n, x.open(5), n == 1 ? 1 : 0);
        }
    }
}
