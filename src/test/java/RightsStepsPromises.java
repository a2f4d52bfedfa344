// Each promise of the document by hand: ordinary inputs, the edges that it names, wrong inputs.
public final class RightsStepsPromises {
    public static void main(String[] args) {
        promise1NewObject();
        promise2Level();
        promise2LevelRefusalsInOrder();
        promise3Tape();
        promise3TapeHoldsTwoHundred();
        promise3TapeGoesRound();
        promise4SeedRefusals();
        promise4SeedOrder();
        promise4SeedRoleBeforeOpenBeforeLock();
        promise4SeedTime();
        promise4SeedPlainAndGiven();
        promise4SeedAwaited();
        promise4SeedEmptyTapeLeavesAwaited();
        promise5Out();
        promise6KeyOfEachKind();
        promise6KeyOctets();
        promise6KeyOctetsAndLevels();
        promise6KeyAwaited();
        promise6KeyTries();
        promise6KeyOneOpen();
        promise7Open();
        promise8Session();
        promise8SessionKeeps();
        promise9Reset();
        promise9ResetKeeps();
        promise10Role();
        promise11Left();
        promise12Log();
        promise12LogThreeHundred();
        promise13Digit();
        promise14Tester();
        promise14TestersOwn();
        promise14TestersShare();
        Checks.finish();
    }

    private static int keyOfKind0(int seed) {
        return seed ^ 1515870810;
    }

    /** Level n of kind 0 in session 2, with a tape of 1001, 1002 and so on. */
    private static RightsSteps ready(int n, int tries, long delay) {
        RightsSteps x = new RightsSteps();
        x.level(n, 0, tries, delay);
        x.session(2);
        for (int i = 1; i <= 20; i++) {
            x.tape(1000 + i);
        }
        return x;
    }

    private static void openIt(RightsSteps x, int level, int seed, long t) {
        Checks.due("seed to open", x.seed(level, t), 4);
        Checks.due("key to open", Checks.sendKey(x, level, keyOfKind0(seed)), 1);
    }

    private static void promise1NewObject() {
        RightsSteps x = new RightsSteps();
        for (int n = -1; n <= 22; n++) {
            Checks.due("1: open(" + n + ")", x.open(n), -1);
            Checks.due("1: seed(" + n + ")", x.seed(n, 0), -1);
            Checks.due("1: left(" + n + ")", x.left(n, 0), -1);
        }
        Checks.due("1: tester at first", x.tester(1), 1);
        Checks.due("1: session at first", x.session(2), 1);
        Checks.due("1: uses at first", x.log(-1, 0), 0);
        Checks.due("1: first use", x.log(0, 0), -1);
        Checks.dueOut(x, 0);
        Checks.dueDigits(x, "0");
        Checks.due("1: nothing open", x.reset(), 0);
        Checks.due("1: level", x.level(1, 0, 1, 0), 1);
        x.session(2);
        Checks.due("1: empty tape", x.seed(1, 0), -34);
    }

    private static void promise2Level() {
        RightsSteps x = new RightsSteps();
        for (int n = 1; n <= 20; n++) {
            Checks.due("2: level " + n, x.level(n, n % 3, 1 + n % 10, n % 2 == 0 ? 0 : 100000), n);
        }
        for (int n = 1; n <= 20; n++) {
            Checks.due("2: level again " + n, x.level(n, 0, 1, 0), -3);
            Checks.due("2: not open " + n, x.open(n), 0);
        }
    }

    private static void promise2LevelRefusalsInOrder() {
        RightsSteps x = new RightsSteps();
        Checks.due("2: number 0", x.level(0, 9, 99, -1), -1);
        Checks.due("2: number 21", x.level(21, 9, 99, -1), -1);
        Checks.due("2: number least", x.level(Integer.MIN_VALUE, 0, 1, 0), -1);
        Checks.due("2: number most", x.level(Integer.MAX_VALUE, 0, 1, 0), -1);
        Checks.due("2: kind -1", x.level(3, -1, 1, 0), -2);
        Checks.due("2: kind 3", x.level(3, 3, 1, 0), -2);
        Checks.due("2: tries 0", x.level(3, 0, 0, 0), -2);
        Checks.due("2: tries 11", x.level(3, 0, 11, 0), -2);
        Checks.due("2: delay -1", x.level(3, 0, 1, -1), -2);
        Checks.due("2: delay above", x.level(3, 0, 1, 100001), -2);
        Checks.due("2: delay beyond int", x.level(3, 0, 1, 1L << 32), -2);
        Checks.due("2: refused ones are not made", x.open(3), -1);
        Checks.due("2: made", x.level(3, 2, 10, 100000), 1);
        Checks.due("2: range before made", x.level(3, 3, 1, 0), -2);
        Checks.due("2: made before", x.level(3, 2, 10, 100000), -3);
        Checks.due("2: refused ones are not counted", x.level(4, 0, 1, 0), 2);
        x.reset();
        Checks.due("2: levels stay over resets", x.level(3, 0, 1, 0), -3);
    }

    private static void promise3Tape() {
        RightsSteps x = new RightsSteps();
        x.level(1, 0, 1, 0);
        x.session(2);
        x.tape(1001);
        x.tape(-1002);
        Checks.due("3: first", x.seed(1, 0), 4);
        Checks.dueOut(x, 1001);
        Checks.due("3: second", x.seed(1, 0), 4);
        Checks.dueOut(x, -1002);
        Checks.due("3: none", x.seed(1, 0), -34);
        x.tape(Integer.MAX_VALUE);
        Checks.due("3: later", x.seed(1, 0), 4);
        Checks.dueOut(x, Integer.MAX_VALUE);
    }

    private static void promise3TapeHoldsTwoHundred() {
        RightsSteps x = new RightsSteps();
        x.level(1, 0, 1, 0);
        x.session(2);
        for (int i = 0; i < 199; i++) {
            x.tape(0);
        }
        x.tape(1001);
        x.tape(1002);
        Checks.due("3: the 200th", x.seed(1, 0), 4);
        Checks.dueOut(x, 1001);
        Checks.due("3: the 201st is lost", x.seed(1, 0), -34);
        x.tape(1003);
        Checks.due("3: room again", x.seed(1, 0), 4);
        Checks.dueOut(x, 1003);
    }

    private static void promise3TapeGoesRound() {
        RightsSteps x = new RightsSteps();
        x.level(1, 0, 1, 0);
        x.session(2);
        for (int i = 0; i < 200; i++) {
            x.tape(1000 + i);
        }
        for (int i = 0; i < 60; i++) {
            x.seed(1, 0);
        }
        for (int i = 200; i < 261; i++) {
            x.tape(1000 + i);
        }
        Checks.dueOut(x, 1059);
        for (int i = 0; i < 139; i++) {
            x.seed(1, 0);
        }
        Checks.dueOut(x, 1198);
        x.seed(1, 0);
        Checks.dueOut(x, 1199);
        x.seed(1, 0);
        Checks.dueOut(x, 1200);
    }

    private static void promise4SeedRefusals() {
        RightsSteps x = ready(1, 1, 0);
        Checks.due("4: not made", x.seed(2, 0), -1);
        Checks.due("4: no such level", x.seed(0, 0), -1);
        Checks.due("4: level 21", x.seed(21, 0), -1);
        Checks.due("4: not made before time", x.seed(2, -1), -1);
        Checks.due("4: time below", x.seed(1, -1), -2);
        Checks.due("4: time above", x.seed(1, Checks.LATEST + 1), -2);
        Checks.due("4: time least", x.seed(1, Long.MIN_VALUE), -2);
        Checks.due("4: time most", x.seed(1, Long.MAX_VALUE), -2);
        Checks.due("4: refusals change no time", x.seed(1, 0), 4);
        Checks.dueOut(x, 1001);
        Checks.due("4: latest time", x.seed(1, Checks.LATEST), 4);
        Checks.due("4: latest time again", x.seed(1, Checks.LATEST), 4);
        Checks.due("4: earlier", x.seed(1, Checks.LATEST - 1), -2);
    }

    private static void promise4SeedOrder() {
        RightsSteps x = new RightsSteps();
        for (int n = 1; n <= 20; n++) {
            x.level(n, 0, 1, 0);
        }
        x.role(1, true, 1000);
        for (int session = 1; session <= 3; session++) {
            x.session(session);
            for (int n = 1; n <= 20; n++) {
                int want = n <= 10 ? (session == 1 ? -18 : -34) : (session == 3 ? -51 : -18);
                Checks.due("4: level " + n + " in session " + session, x.seed(n, 0), want);
            }
        }
        x.role(8, true, 1);
        for (int n = 11; n <= 20; n++) {
            Checks.due("4: level with role " + n, x.seed(n, 0), -34);
        }
        Checks.due("4: role is over", x.seed(11, 1), -51);
        Checks.due("4: none needed", x.seed(10, 1), -34);
    }

    private static void promise4SeedRoleBeforeOpenBeforeLock() {
        RightsSteps x = ready(11, 1, 50);
        x.session(3);
        x.role(2, true, 10);
        openIt(x, 11, 1001, 0);
        Checks.due("4: open", x.seed(11, 9), 4);
        Checks.dueOut(x, 0);
        Checks.due("4: open, role over", x.seed(11, 10), -51);
        Checks.due("4: is open yet", x.open(11), 1);
        x.session(3);
        x.role(2, true, 1000);
        Checks.due("4: closed", x.seed(11, 20), 4);
        Checks.dueOut(x, 1002);
        Checks.due("4: wrong", Checks.sendKey(x, 11, 5), -54);
        Checks.due("4: locked", x.seed(11, 69), -55);
        Checks.dueOut(x, 1002);
        x.session(2);
        Checks.due("4: session before lock", x.seed(11, 69), -18);
        x.session(3);
        Checks.due("4: role before lock", x.seed(11, 69), -51);
        x.role(2, true, 1000);
        Checks.due("4: lock over", x.seed(11, 70), 4);
        Checks.dueOut(x, 1003);
    }

    private static void promise4SeedTime() {
        RightsSteps x = new RightsSteps();
        x.level(1, 0, 1, 0);
        Checks.due("4: -18 moves the time", x.seed(1, 5), -18);
        Checks.due("4: time moved", x.seed(1, 4), -2);
        x.session(2);
        Checks.due("4: -34 moves the time", x.seed(1, 7), -34);
        Checks.due("4: time moved again", x.seed(1, 6), -2);
        Checks.due("4: role until the time", x.role(1, true, 7), 0);
        Checks.due("4: role above the time", x.role(1, true, 8), 1);
        x.reset();
        Checks.due("4: time stays over resets", x.seed(1, 6), -2);
    }

    private static void promise4SeedPlainAndGiven() {
        RightsSteps x = new RightsSteps();
        x.level(1, 0, 1, 0);
        x.session(2);
        for (int octet = 0; octet < 100; octet++) {
            x.tape(octet * 0x01010101);
        }
        x.tape(0x80808080);
        x.tape(-1);
        Checks.due("4: all plain", x.seed(1, 0), -34);
        int[] rows = {0x01010100, 0x00010101, 0x01000101, 0x01010001, -2, 0x7F808080, 256};
        for (int i = 0; i < rows.length; i++) {
            x.tape(rows[i]);
        }
        for (int i = 0; i < rows.length; i++) {
            Checks.due("4: not plain", x.seed(1, 0), 4);
            Checks.dueOut(x, rows[i]);
        }
        for (int i = 0; i < rows.length; i++) {
            x.tape(rows[i]);
        }
        x.tape(300);
        Checks.due("4: the given ones are passed over", x.seed(1, 0), 4);
        Checks.dueOut(x, 300);
        x.tape(300);
        Checks.due("4: given only", x.seed(1, 0), -34);
        Checks.dueOut(x, 300);
        x.reset();
        x.session(2);
        Checks.due("4: what is passed over is gone", x.seed(1, 0), -34);
        x.tape(300);
        Checks.due("4: given before the reset", x.seed(1, 0), 4);
        x.tape(rows[0]);
        Checks.due("4: the first one given before the reset", x.seed(1, 0), 4);
        Checks.dueOut(x, rows[0]);
    }

    private static void promise4SeedAwaited() {
        RightsSteps x = ready(1, 5, 0);
        x.level(2, 0, 5, 0);
        Checks.due("4: for 1", x.seed(1, 0), 4);
        Checks.due("4: for 2", x.seed(2, 0), 4);
        Checks.due("4: 1 is awaited no more", Checks.sendKey(x, 1, keyOfKind0(1001)), -36);
        Checks.due("4: 2 is", Checks.sendKey(x, 2, keyOfKind0(1002)), 1);
        Checks.due("4: for 1", x.seed(1, 0), 4);
        Checks.due("4: 2 is open", x.seed(2, 0), 4);
        Checks.dueOut(x, 0);
        Checks.due("4: 1 is awaited yet", Checks.sendKey(x, 1, keyOfKind0(1003)), 1);
        Checks.due("4: 2 with an old seed", x.seed(2, 0), 4);
        Checks.due("4: 2 with a new seed", x.seed(2, 0), 4);
        Checks.due("4: the old seed does not open", Checks.sendKey(x, 2, keyOfKind0(1004)), -53);
    }

    private static void promise4SeedEmptyTapeLeavesAwaited() {
        RightsSteps x = new RightsSteps();
        x.level(1, 0, 5, 0);
        x.level(2, 0, 5, 0);
        x.session(2);
        x.tape(1001);
        Checks.due("4: the seed", x.seed(1, 0), 4);
        Checks.due("4: no seed", x.seed(2, 0), -34);
        Checks.dueOut(x, 1001);
        Checks.due("4: the first is awaited", Checks.sendKey(x, 1, keyOfKind0(1001)), 1);
    }

    private static void promise5Out() {
        RightsSteps x = new RightsSteps();
        Checks.dueOut(x, 0);
        x.level(1, 0, 1, 0);
        x.session(2);
        x.tape(0x80FF017F);
        x.seed(1, 0);
        Checks.due("5: out(0)", x.out(0), -128);
        Checks.due("5: out(1)", x.out(1), -1);
        Checks.due("5: out(2)", x.out(2), 1);
        Checks.due("5: out(3)", x.out(3), 127);
        int[] none = {-1, 4, 5, 32, Integer.MIN_VALUE, Integer.MAX_VALUE};
        for (int i = 0; i < none.length; i++) {
            Checks.dueOutThrows(x, none[i]);
        }
        x.session(3);
        x.reset();
        Checks.dueOut(x, 0x80FF017F);
    }

    private static void promise6KeyOfEachKind() {
        RightsSteps x = new RightsSteps();
        x.level(3, 0, 1, 0);
        x.level(9, 1, 1, 0);
        x.level(20, 2, 1, 0);
        x.level(10, 2, 1, 0);
        x.session(3);
        x.role(1, true, 10);
        int[] seeds = {305419896, -559038737, Integer.MIN_VALUE, 1, Integer.MAX_VALUE};
        for (int i = 0; i < seeds.length; i++) {
            int seed = seeds[i];
            openBy(x, 3, seed, seed ^ 0x5A5A5A5A);
            openBy(x, 9, seed, Integer.rotateLeft(seed, 7) * 0x9E3779B1 + 9);
            openBy(x, 20, seed, shifted(seed, 20));
            openBy(x, 10, seed, shifted(seed, 10));
        }
    }

    private static void openBy(RightsSteps x, int level, int seed, int key) {
        x.reset();
        x.session(3);
        x.role(1, true, 10);
        x.tape(seed);
        Checks.due("6: seed", x.seed(level, 0), 4);
        Checks.due("6: key of level " + level + " to " + seed, Checks.sendKey(x, level, key), 1);
        Checks.due("6: open " + level, x.open(level), 1);
        x.reset();
        x.session(3);
        x.role(1, true, 10);
        x.tape(seed);
        Checks.due("6: seed again", x.seed(level, 0), 4);
        Checks.due("6: wrong key of level " + level, Checks.sendKey(x, level, key ^ 1), -54);
        Checks.due("6: shut " + level, x.open(level), 0);
    }

    private static int shifted(int seed, int n) {
        long rest = (seed ^ n) & 0xFFFFFFFFL;
        for (int i = 0; i < 32; i++) {
            rest = rest % 2 == 1 ? rest / 2 ^ 0xEDB88320L : rest / 2;
        }
        return (int) rest;
    }

    private static void promise6KeyOctets() {
        RightsSteps x = ready(1, 2, 0);
        x.seed(1, 0);
        Checks.due("6: one octet", x.key(1, (byte) 1, true), -19);
        Checks.due("6: the seed is awaited yet", Checks.sendKey(x, 1, keyOfKind0(1001)), 1);
        x.session(2);
        x.seed(1, 0);
        int key = keyOfKind0(1002);
        x.key(1, (byte) 7, false);
        Checks.due("6: five octets", Checks.sendKey(x, 1, key), -19);
        for (int i = 0; i < 252; i++) {
            x.key(1, (byte) 7, false);
        }
        Checks.due("6: very many octets", Checks.sendKey(x, 1, key), -19);
        Checks.due("6: nothing left of them", Checks.sendKey(x, 1, key), 1);
        Checks.due("6: -19 before -36", x.key(1, (byte) 1, true), -19);
        Checks.due("6: four without a seed", Checks.sendKey(x, 1, key), -36);
    }

    private static void promise6KeyOctetsAndLevels() {
        RightsSteps x = ready(1, 2, 0);
        x.seed(1, 0);
        int key = keyOfKind0(1001);
        Checks.due("6: octet for a level not made", x.key(2, (byte) (key >> 24), false), 0);
        Checks.due("6: octet for no level", x.key(-7, (byte) (key >> 16), false), 0);
        Checks.due("6: octet for no level", x.key(Integer.MAX_VALUE, (byte) (key >> 8), false), 0);
        Checks.due("6: the last one tells the level", x.key(1, (byte) key, true), 1);
        x.session(2);
        x.seed(1, 0);
        key = keyOfKind0(1002);
        Checks.due("6: not made", Checks.sendKey(x, 2, key), -1);
        Checks.due("6: no level", x.key(21, (byte) 1, true), -1);
        Checks.due("6: no level", x.key(0, (byte) 1, true), -1);
        Checks.due("6: the octets before are gone", Checks.sendKey(x, 1, key), 1);
    }

    private static void promise6KeyAwaited() {
        RightsSteps x = ready(1, 3, 0);
        x.level(2, 0, 3, 0);
        Checks.due("6: nothing at first", Checks.sendKey(x, 1, keyOfKind0(0)), -36);
        x.seed(1, 0);
        Checks.due("6: for another level", Checks.sendKey(x, 2, keyOfKind0(1001)), -36);
        Checks.due("6: for this level", Checks.sendKey(x, 1, 5), -53);
        Checks.due("6: no more", Checks.sendKey(x, 1, keyOfKind0(1001)), -36);
        x.seed(1, 0);
        Checks.due("6: right", Checks.sendKey(x, 1, keyOfKind0(1002)), 1);
        Checks.due("6: no more either", Checks.sendKey(x, 1, keyOfKind0(1002)), -36);
    }

    private static void promise6KeyTries() {
        RightsSteps x = ready(1, 3, 10);
        x.seed(1, 0);
        Checks.due("6: first try", Checks.sendKey(x, 1, 5), -53);
        x.seed(1, 0);
        Checks.due("6: second try", Checks.sendKey(x, 1, 5), -53);
        x.seed(1, 0);
        Checks.due("6: right", Checks.sendKey(x, 1, keyOfKind0(1003)), 1);
        x.session(2);
        x.seed(1, 0);
        Checks.due("6: none was used", Checks.sendKey(x, 1, 5), -53);
        x.seed(1, 0);
        Checks.due("6: second try", Checks.sendKey(x, 1, 5), -53);
        x.seed(1, 100);
        Checks.due("6: third try", Checks.sendKey(x, 1, 5), -54);
        Checks.due("6: locked", x.seed(1, 109), -55);
        Checks.due("6: locked no more", x.seed(1, 110), 4);
        Checks.due("6: none are used", Checks.sendKey(x, 1, 5), -53);
        x.seed(1, 110);
        Checks.due("6: second again", Checks.sendKey(x, 1, 5), -53);
        x.seed(1, 110);
        Checks.due("6: third again", Checks.sendKey(x, 1, 5), -54);
    }

    private static void promise6KeyOneOpen() {
        RightsSteps x = ready(1, 2, 0);
        x.level(2, 0, 1, 0);
        openIt(x, 1, 1001, 0);
        x.seed(2, 0);
        Checks.due("6: wrong for 2", Checks.sendKey(x, 2, 5), -54);
        Checks.due("6: 1 stays open", x.open(1), 1);
        openIt(x, 2, 1003, 0);
        Checks.due("6: 1 is open no more", x.open(1), 0);
        Checks.due("6: 2 is", x.open(2), 1);
        Checks.due("6: one was open", x.reset(), 1);
    }

    private static void promise7Open() {
        RightsSteps x = ready(10, 1, 0);
        Checks.due("7: shut", x.open(10), 0);
        openIt(x, 10, 1001, 0);
        Checks.due("7: open", x.open(10), 1);
        int[] none = {-1, 0, 1, 9, 11, 20, 21, Integer.MIN_VALUE, Integer.MAX_VALUE};
        for (int i = 0; i < none.length; i++) {
            Checks.due("7: open(" + none[i] + ")", x.open(none[i]), -1);
        }
        x.level(20, 0, 1, 0);
        Checks.due("7: shut 20", x.open(20), 0);
    }

    private static void promise8Session() {
        RightsSteps x = ready(1, 2, 0);
        int[] none = {-1, 0, 4, Integer.MIN_VALUE, Integer.MAX_VALUE};
        openIt(x, 1, 1001, 0);
        for (int i = 0; i < none.length; i++) {
            Checks.due("8: session(" + none[i] + ")", x.session(none[i]), -2);
        }
        Checks.due("8: refusals change nothing", x.open(1), 1);
        Checks.due("8: the same", x.session(2), 2);
        Checks.due("8: nothing open", x.open(1), 0);
        x.seed(1, 0);
        Checks.due("8: to 3", x.session(3), 2);
        Checks.due("8: nothing awaited", Checks.sendKey(x, 1, keyOfKind0(1002)), -36);
        Checks.due("8: to 1", x.session(1), 3);
        Checks.due("8: back", x.session(3), 1);
        x.level(11, 0, 1, 0);
        x.role(1, true, 100);
        Checks.due("8: with the role", x.seed(11, 0), 4);
        x.session(3);
        Checks.due("8: no role", x.seed(11, 0), -51);
    }

    private static void promise8SessionKeeps() {
        RightsSteps x = ready(1, 2, 10);
        x.seed(1, 0);
        Checks.due("8: a try is used", Checks.sendKey(x, 1, 5), -53);
        int key = keyOfKind0(1002);
        x.key(1, (byte) (key >> 24), false);
        x.key(1, (byte) (key >> 16), false);
        x.session(2);
        Checks.dueOut(x, 1001);
        x.seed(1, 0);
        Checks.dueOut(x, 1002);
        x.key(1, (byte) (key >> 8), false);
        Checks.due("8: octets stay", x.key(1, (byte) key, true), 1);
        x.session(2);
        x.seed(1, 0);
        Checks.sendKey(x, 1, 5);
        x.session(2);
        x.seed(1, 0);
        Checks.due("8: used tries stay", Checks.sendKey(x, 1, 5), -54);
        x.session(3);
        Checks.due("8: the lock stays", x.seed(1, 9), -55);
        x.session(2);
        x.tape(1002);
        for (int i = 0; i < 16; i++) {
            x.seed(1, 10);
        }
        Checks.dueOut(x, 1020);
        Checks.due("8: given ones stay given", x.seed(1, 10), -34);
    }

    private static void promise9Reset() {
        RightsSteps x = ready(1, 2, 0);
        openIt(x, 1, 1001, 0);
        x.tester(2);
        x.session(2);
        openIt(x, 1, 1002, 0);
        x.tester(4);
        x.session(2);
        openIt(x, 1, 1003, 0);
        x.tester(3);
        Checks.due("9: three were open", x.reset(), 3);
        Checks.due("9: none are", x.reset(), 0);
        for (int n = 1; n <= 4; n++) {
            x.tester(n);
            Checks.due("9: shut " + n, x.open(1), 0);
            Checks.due("9: session 1 of " + n, x.session(2), 1);
        }
        x.seed(1, 0);
        x.tester(1);
        x.reset();
        x.tester(4);
        x.session(2);
        Checks.due("9: nothing awaited", Checks.sendKey(x, 1, keyOfKind0(1004)), -36);
        x.level(11, 0, 1, 0);
        x.session(3);
        x.role(1, true, 100);
        x.reset();
        Checks.due("9: session before role", x.seed(11, 0), -18);
        x.session(3);
        Checks.due("9: no role", x.seed(11, 0), -51);
    }

    private static void promise9ResetKeeps() {
        RightsSteps x = ready(1, 2, 10);
        x.tester(3);
        x.session(2);
        x.key(1, (byte) 9, false);
        x.seed(1, 0);
        x.key(1, (byte) 9, false);
        x.tester(2);
        x.session(2);
        x.seed(1, 0);
        Checks.sendKey(x, 1, 5);
        x.reset();
        Checks.due("9: at hand stays", x.tester(2), 2);
        Checks.dueOut(x, 1002);
        x.session(2);
        Checks.due("9: the tape stays", x.seed(1, 0), 4);
        Checks.dueOut(x, 1003);
        Checks.due("9: used tries stay", Checks.sendKey(x, 1, 5), -54);
        x.reset();
        x.session(2);
        Checks.due("9: the lock stays", x.left(1, 0), 10);
        Checks.due("9: locked", x.seed(1, 9), -55);
        x.tester(3);
        Checks.dueOut(x, 1001);
        x.session(2);
        x.seed(1, 9);
        Checks.due("9: octets are gone", Checks.sendKey(x, 1, keyOfKind0(1004)), 1);
        Checks.due("9: the log stays", x.log(0, 0), 3);
    }

    private static void promise10Role() {
        RightsSteps x = ready(11, 1, 0);
        x.session(3);
        int[] none = {-1, 0, 9, Integer.MIN_VALUE, Integer.MAX_VALUE};
        for (int i = 0; i < none.length; i++) {
            Checks.due("10: role(" + none[i] + ")", x.role(none[i], true, 5), -1);
            Checks.due("10: bad role(" + none[i] + ")", x.role(none[i], false, -5), -1);
        }
        Checks.due("10: not good", x.role(1, false, 5), 0);
        Checks.due("10: at the time", x.role(1, true, 0), 0);
        Checks.due("10: before", x.role(1, true, Long.MIN_VALUE), 0);
        Checks.due("10: none is had", x.seed(11, 0), -51);
        for (int role = 1; role <= 8; role++) {
            x.session(3);
            Checks.due("10: role " + role, x.role(role, true, 1 + role), 1);
            Checks.due("10: valid " + role, x.seed(11, role), 4);
        }
        Checks.due("10: not good leaves the last", x.role(2, false, 20), 0);
        Checks.due("10: not above leaves the last", x.role(2, true, 8), 0);
        Checks.due("10: valid yet", x.seed(11, 8), 4);
        Checks.due("10: over", x.seed(11, 9), -51);
        Checks.due("10: long", x.role(1, true, 20), 1);
        Checks.due("10: the last one, shorter", x.role(2, true, 15), 1);
        Checks.due("10: in it", x.seed(11, 14), 4);
        Checks.due("10: over", x.seed(11, 15), -51);
        Checks.due("10: above all times", x.role(8, true, Long.MAX_VALUE), 1);
        Checks.due("10: valid to the end", x.seed(11, Checks.LATEST), 4);
    }

    private static void promise11Left() {
        RightsSteps x = ready(1, 1, 100000);
        int[] none = {-1, 0, 2, 20, 21, Integer.MIN_VALUE, Integer.MAX_VALUE};
        for (int i = 0; i < none.length; i++) {
            Checks.due("11: left(" + none[i] + ")", x.left(none[i], 0), -1);
        }
        Checks.due("11: never locked", x.left(1, Long.MIN_VALUE), 0);
        Checks.due("11: never locked", x.left(1, -1), 0);
        Checks.due("11: never locked", x.left(1, Long.MAX_VALUE), 0);
        x.seed(1, 1000000);
        Checks.sendKey(x, 1, 5);
        Checks.due("11: at the time", x.left(1, 1000000), 100000);
        Checks.due("11: one yet", x.left(1, 1099999), 1);
        Checks.due("11: none", x.left(1, 1100000), 0);
        Checks.due("11: none", x.left(1, 1100001), 0);
        Checks.due("11: below the most", x.left(1, 100001), 999999);
        Checks.due("11: the most", x.left(1, 100000), 1000000);
        Checks.due("11: above the most", x.left(1, 99999), 1000000);
        Checks.due("11: the least time", x.left(1, Long.MIN_VALUE), 1000000);
        Checks.due("11: the latest time", x.left(1, Long.MAX_VALUE), 0);
        Checks.due("11: no time moved", x.seed(1, 1000000), -55);
        x.tester(2);
        Checks.due("11: another tester", x.left(1, 0), 0);
        RightsSteps y = ready(1, 1, 0);
        y.seed(1, 5);
        Checks.sendKey(y, 1, 5);
        Checks.due("11: a delay of 0", y.left(1, 5), 0);
        Checks.due("11: before it", y.left(1, 4), 1);
    }

    private static void promise12Log() {
        RightsSteps x = ready(1, 2, 0);
        x.seed(2, 0);
        x.seed(1, -1);
        Checks.sendKey(x, 2, 5);
        x.key(1, (byte) 5, false);
        Checks.due("12: refusals are no uses", x.log(-1, 0), 0);
        x.key(1, (byte) 5, true);
        x.tester(3);
        x.seed(1, 0);
        x.tester(1);
        x.seed(1, 0);
        Checks.sendKey(x, 1, 5);
        x.level(20, 0, 1, 0);
        x.seed(20, 0);
        Checks.sendKey(x, 20, 5);
        int[][] rows = {{1, 1, -19}, {3, 1, -18}, {1, 1, 4}, {1, 1, -53}, {1, 20, -18}, {1, 20, -36}};
        Checks.due("12: how many", x.log(-1, 0), rows.length);
        for (int i = 0; i < rows.length; i++) {
            for (int what = 0; what < 3; what++) {
                Checks.due("12: log(" + i + ", " + what + ")", x.log(i, what), rows[i][what]);
            }
            Checks.due("12: what -1", x.log(i, -1), -2);
            Checks.due("12: what 3", x.log(i, 3), -2);
            Checks.due("12: what most", x.log(i, Integer.MAX_VALUE), -2);
            Checks.due("12: what least", x.log(i, Integer.MIN_VALUE), -2);
        }
        Checks.due("12: none yet", x.log(rows.length, 0), -1);
        Checks.due("12: -1 before -2", x.log(rows.length, 3), -1);
        Checks.due("12: -1 with another what", x.log(-1, 1), -1);
        Checks.due("12: -1 with no what", x.log(-1, 3), -1);
        Checks.due("12: -2", x.log(-2, 0), -1);
        Checks.due("12: least", x.log(Integer.MIN_VALUE, 0), -1);
        Checks.due("12: most", x.log(Integer.MAX_VALUE, 2), -1);
    }

    private static void promise12LogThreeHundred() {
        RightsSteps x = new RightsSteps();
        x.level(1, 0, 1, 0);
        for (int i = 0; i < 299; i++) {
            x.seed(1, i);
        }
        Checks.due("12: 299", x.log(-1, 0), 299);
        Checks.due("12: none yet", x.log(299, 0), -1);
        x.session(2);
        x.seed(1, 299);
        Checks.due("12: 300", x.log(-1, 0), 300);
        Checks.due("12: the last kept", x.log(299, 2), -34);
        x.tester(2);
        x.seed(1, 300);
        Checks.due("12: how many there were", x.log(-1, 0), 301);
        Checks.due("12: not kept", x.log(300, 0), -1);
        Checks.due("12: not kept, no such what", x.log(300, 3), -1);
        Checks.due("12: the last kept stays", x.log(299, 0), 1);
        Checks.due("12: the first", x.log(0, 2), -18);
    }

    private static void promise13Digit() {
        int[] seeds = {1, 9, 10, 99, 100, 999999999, 1000000000, Integer.MAX_VALUE, Integer.MIN_VALUE, -2,
            305419896, 1000000007};
        for (int i = 0; i < seeds.length; i++) {
            RightsSteps x = new RightsSteps();
            x.level(1, 0, 1, 0);
            x.session(2);
            x.tape(seeds[i]);
            x.seed(1, 0);
            Checks.dueDigits(x, Integer.toUnsignedString(seeds[i]));
            Checks.dueDigitThrows(x, 10);
            Checks.dueDigitThrows(x, Integer.MIN_VALUE);
            Checks.dueDigitThrows(x, Integer.MAX_VALUE);
        }
    }

    private static void promise14Tester() {
        RightsSteps x = new RightsSteps();
        Checks.due("14: the same", x.tester(1), 1);
        Checks.due("14: to 4", x.tester(4), 1);
        int[] none = {-1, 0, 5, Integer.MIN_VALUE, Integer.MAX_VALUE};
        for (int i = 0; i < none.length; i++) {
            Checks.due("14: tester(" + none[i] + ")", x.tester(none[i]), -2);
        }
        Checks.due("14: to 2", x.tester(2), 4);
        Checks.due("14: to 3", x.tester(3), 2);
        Checks.due("14: to 1", x.tester(1), 3);
    }

    private static void promise14TestersOwn() {
        RightsSteps x = ready(1, 2, 10);
        x.level(11, 0, 2, 10);
        x.session(3);
        x.role(1, true, 100);
        x.seed(1, 0);
        int key = keyOfKind0(1001);
        x.key(1, (byte) (key >> 24), false);
        x.key(1, (byte) (key >> 16), false);
        x.tester(2);
        Checks.dueOut(x, 0);
        Checks.dueDigits(x, "0");
        Checks.due("14: session of its own", x.session(3), 1);
        Checks.due("14: role of its own", x.seed(11, 0), -51);
        Checks.due("14: awaited of its own", Checks.sendKey(x, 1, key), -36);
        x.seed(1, 0);
        Checks.dueOut(x, 1002);
        Checks.due("14: a try", Checks.sendKey(x, 1, 5), -53);
        x.tester(1);
        Checks.dueOut(x, 1001);
        x.key(1, (byte) (key >> 8), false);
        Checks.due("14: octets of its own", x.key(1, (byte) key, true), 1);
        Checks.due("14: open", x.open(1), 1);
        Checks.due("14: role is had", x.seed(11, 0), 4);
        x.tester(2);
        Checks.due("14: not open", x.open(1), 0);
        x.seed(1, 0);
        Checks.due("14: its second try", Checks.sendKey(x, 1, 5), -54);
        x.tester(1);
        x.session(2);
        Checks.due("14: not locked", x.left(1, 0), 0);
        x.seed(1, 0);
        Checks.due("14: its first try", Checks.sendKey(x, 1, 5), -53);
        x.tester(2);
        Checks.due("14: locked", x.left(1, 0), 10);
        Checks.due("14: session of its own", x.session(2), 3);
    }

    private static void promise14TestersShare() {
        RightsSteps x = ready(1, 2, 10);
        x.seed(1, 5);
        x.tester(2);
        x.session(2);
        Checks.due("14: one time", x.seed(1, 4), -2);
        Checks.due("14: levels for all", x.level(1, 0, 2, 10), -3);
        x.tape(1001);
        x.tape(1500);
        for (int i = 0; i < 20; i++) {
            Checks.due("14: one tape", x.seed(1, 5), 4);
        }
        Checks.dueOut(x, 1500);
        x.tester(3);
        Checks.due("14: one log", x.log(-1, 0), 21);
        Checks.due("14: the first tester", x.log(0, 0), 1);
        Checks.due("14: the second tester", x.log(1, 0), 2);
        x.session(2);
        x.tape(1500);
        Checks.due("14: given for all", x.seed(1, 5), -34);
    }
}
