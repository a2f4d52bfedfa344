import java.util.ArrayList;
import java.util.List;
import java.util.function.Consumer;
import java.util.function.ToLongFunction;

// "REFUSALS change nothing", of promises 2, 4, 6, 7, 8, 10, 11, 12 and 14: two objects come to the same
// state, one of them refuses a call, and from then on both answer alike whatever is asked.
public final class RightsStepsBoundsOfRefusals {
    private static final long NOW = 50;

    private static final class Refused {
        final int promise;
        final String words;
        final ToLongFunction<RightsSteps> call;
        final long want;

        Refused(int promise, String words, ToLongFunction<RightsSteps> call, long want) {
            this.promise = promise;
            this.words = words;
            this.call = call;
            this.want = want;
        }
    }

    private static final List<Refused> REFUSED = new ArrayList<>();

    public static void main(String[] args) {
        refusedLevels();
        refusedSeeds();
        refusedQuestions();
        refusedRights();
        List<Consumer<RightsSteps>> states = new ArrayList<>();
        states.add(RightsStepsBoundsOfRefusals::awaiting);
        states.add(RightsStepsBoundsOfRefusals::openWithARole);
        states.add(RightsStepsBoundsOfRefusals::lockedWithTries);
        states.add(RightsStepsBoundsOfRefusals::behindAReset);
        for (int i = 0; i < states.size(); i++) {
            for (Refused one : REFUSED) {
                dueNothingChanged(one, i, states.get(i));
            }
            dueOctetsAreGoneAlone(i, states.get(i));
        }
        dueAwaitedBehindARefusedKey();
        Checks.finish();
    }

    private static void refuse(int promise, String words, ToLongFunction<RightsSteps> call, long want) {
        REFUSED.add(new Refused(promise, words, call, want));
    }

    private static void refusedLevels() {
        refuse(2, "level(0)", x -> x.level(0, 0, 1, 0), -1);
        refuse(2, "level(21)", x -> x.level(21, 0, 1, 0), -1);
        refuse(2, "kind -1", x -> x.level(4, -1, 1, 0), -2);
        refuse(2, "kind 3", x -> x.level(4, 3, 1, 0), -2);
        refuse(2, "tries 0", x -> x.level(4, 0, 0, 0), -2);
        refuse(2, "tries 11", x -> x.level(4, 0, 11, 0), -2);
        refuse(2, "delay -1", x -> x.level(4, 0, 1, -1), -2);
        refuse(2, "delay 100001", x -> x.level(4, 0, 1, 100001), -2);
        refuse(2, "kind 3, made", x -> x.level(5, 3, 1, 0), -2);
        refuse(2, "level(5), made", x -> x.level(5, 1, 1, 9), -3);
        refuse(2, "level(11), made", x -> x.level(11, 1, 1, 9), -3);
    }

    private static void refusedSeeds() {
        refuse(4, "seed(0)", x -> x.seed(0, 60), -1);
        refuse(4, "seed(21)", x -> x.seed(21, 60), -1);
        refuse(4, "seed(4), not made", x -> x.seed(4, 60), -1);
        refuse(4, "a time below", x -> x.seed(5, NOW - 1), -2);
        refuse(4, "a time above", x -> x.seed(5, Checks.LATEST + 1), -2);
        refuse(4, "the least time", x -> x.seed(11, Long.MIN_VALUE), -2);
        refuse(4, "the most time", x -> x.seed(11, Long.MAX_VALUE), -2);
    }

    private static void refusedQuestions() {
        refuse(7, "open(0)", x -> x.open(0), -1);
        refuse(7, "open(21)", x -> x.open(21), -1);
        refuse(7, "open(4), not made", x -> x.open(4), -1);
        refuse(11, "left(0)", x -> x.left(0, 60), -1);
        refuse(11, "left(21)", x -> x.left(21, 60), -1);
        refuse(11, "left(4), not made", x -> x.left(4, 60), -1);
        refuse(12, "log(-2, 0)", x -> x.log(-2, 0), -1);
        refuse(12, "log(-1, 1)", x -> x.log(-1, 1), -1);
        refuse(12, "log(300, 0)", x -> x.log(300, 0), -1);
        refuse(12, "log(0, -1)", x -> x.log(0, -1), -2);
        refuse(12, "log(0, 3)", x -> x.log(0, 3), -2);
        refuse(5, "out(4)", x -> outThrows(x, 4), 1);
        refuse(5, "out(-1)", x -> outThrows(x, -1), 1);
        refuse(13, "digit(10)", x -> digitThrows(x, 10), 1);
        refuse(13, "digit(-1)", x -> digitThrows(x, -1), 1);
    }

    private static void refusedRights() {
        refuse(8, "session(0)", x -> x.session(0), -2);
        refuse(8, "session(4)", x -> x.session(4), -2);
        refuse(10, "role(0)", x -> x.role(0, true, 60), -1);
        refuse(10, "role(9)", x -> x.role(9, true, 60), -1);
        refuse(10, "role(9), not good", x -> x.role(9, false, 60), -1);
        refuse(10, "role(1), not good", x -> x.role(1, false, 60), 0);
        refuse(10, "role(1), not above", x -> x.role(1, true, NOW), 0);
        refuse(14, "tester(0)", x -> x.tester(0), -2);
        refuse(14, "tester(5)", x -> x.tester(5), -2);
    }

    private static long outThrows(RightsSteps x, int i) {
        try {
            x.out(i);
            return 0;
        } catch (ArrayIndexOutOfBoundsException e) {
            return 1;
        }
    }

    private static long digitThrows(RightsSteps x, int i) {
        try {
            x.digit(i);
            return 0;
        } catch (ArrayIndexOutOfBoundsException e) {
            return 1;
        }
    }

    private static void threeLevels(RightsSteps x) {
        x.level(5, 0, 3, 40);
        x.level(6, 1, 2, 30);
        x.level(11, 2, 3, 20);
        Checks.giveRights(x);
    }

    /** Tester 1: a seed for 5, and the first two octets of its key. */
    private static void awaiting(RightsSteps x) {
        threeLevels(x);
        Checks.giveSeed(x, 5, 1001, NOW);
        x.key(5, (byte) (Checks.keyTo(0, 5, 1001) >> 24), false);
        x.key(5, (byte) (Checks.keyTo(0, 5, 1001) >> 16), false);
        Checks.fill(x, 2000, 5);
    }

    /** Tester 3: 11 is open, by a role that ends. */
    private static void openWithARole(RightsSteps x) {
        threeLevels(x);
        x.tester(3);
        x.session(3);
        x.role(2, true, 58);
        Checks.giveSeed(x, 11, 1001, NOW);
        Checks.due("the right key of 11", Checks.sendKey(x, 11, Checks.keyTo(2, 11, 1001)), 1);
        Checks.fill(x, 2000, 5);
    }

    /** Tester 4: a try of 5 is used, and 6 is locked; 5 is open to tester 2. */
    private static void lockedWithTries(RightsSteps x) {
        threeLevels(x);
        x.tester(2);
        Checks.giveRights(x);
        Checks.openIt(x, 5, 1000, 20);
        x.tester(4);
        Checks.giveRights(x);
        Checks.dueWrong(x, 5, 1001, 30, -53);
        Checks.giveSeed(x, 6, 1002, 40);
        Checks.due("a wrong key of 6", Checks.sendKey(x, 6, 5), -53);
        Checks.giveSeed(x, 6, 1003, NOW);
        Checks.due("a wrong key of 6", Checks.sendKey(x, 6, 5), -54);
        Checks.fill(x, 2000, 5);
    }

    private static void behindAReset(RightsSteps x) {
        lockedWithTries(x);
        x.reset();
        x.session(2);
        Checks.due("the tape goes on", x.seed(5, NOW), 4);
    }

    private static void dueNothingChanged(Refused one, int state, Consumer<RightsSteps> comeTo) {
        RightsSteps x = new RightsSteps();
        RightsSteps y = new RightsSteps();
        comeTo.accept(x);
        comeTo.accept(y);
        Checks.sentence(one.promise, "REFUSALS change nothing: " + one.words + " in state " + state);
        Checks.due("the refused call", one.call.applyAsLong(x), one.want);
        dueAlike(x, y);
    }

    /** The one refusal that changes something, as promise 6 says: the octets are gone, and nothing else. */
    private static void dueOctetsAreGoneAlone(int state, Consumer<RightsSteps> comeTo) {
        int[] none = {0, 4, 21};
        for (int i = 0; i < none.length; i++) {
            RightsSteps x = new RightsSteps();
            RightsSteps y = new RightsSteps();
            comeTo.accept(x);
            comeTo.accept(y);
            Checks.sentence(6, "-1 changes nothing but octets: key(" + none[i] + ") in state " + state);
            Checks.due("the refused call", x.key(none[i], (byte) 5, true), -1);
            Checks.due("the refused call on the other", y.key(none[i], (byte) 6, true), -1);
            Checks.due("once more on the one", x.key(none[i], (byte) 5, true), -1);
            dueAlike(x, y);
        }
    }

    private static void dueAwaitedBehindARefusedKey() {
        Checks.sentence(6, "-1 changes nothing but octets: what is awaited is awaited yet");
        RightsSteps x = new RightsSteps();
        awaiting(x);
        Checks.due("the refused call", x.key(4, (byte) 5, true), -1);
        Checks.due("the right key", Checks.sendKey(x, 5, Checks.keyTo(0, 5, 1001)), 1);
    }

    private static void dueAlike(RightsSteps x, RightsSteps y) {
        List<Long> got = tail(x);
        List<Long> want = tail(y);
        Checks.due("as many answers", got.size(), want.size());
        for (int i = 0; i < want.size(); i++) {
            Checks.due("answer " + i + " from then on", got.get(i), want.get(i));
        }
    }

    private static List<Long> tail(RightsSteps x) {
        List<Long> told = new ArrayList<>();
        tellLog(x, told);
        endTheKey(x, told);
        tellTester(x, told);
        told.add((long) x.seed(5, NOW - 1));
        askForEach(x, told, NOW);
        askForEach(x, told, 57);
        askForEach(x, told, 58);
        tellLog(x, told);
        for (int n = 1; n <= 4; n++) {
            told.add((long) x.tester(n));
            tellTester(x, told);
        }
        told.add((long) x.level(4, 0, 1, 0));
        told.add((long) x.level(5, 0, 1, 0));
        told.add((long) x.reset());
        return told;
    }

    /** The octets that state 0 has begun with come to an end; in the others it answers something alike. */
    private static void endTheKey(RightsSteps x, List<Long> told) {
        int key = Checks.keyTo(0, 5, 1001);
        told.add((long) x.key(5, (byte) (key >> 8), false));
        told.add((long) x.key(5, (byte) key, true));
    }

    private static void askForEach(RightsSteps x, List<Long> told, long t) {
        int[] levels = {5, 6, 11};
        for (int i = 0; i < levels.length; i++) {
            told.add((long) x.seed(levels[i], t));
            tellOut(x, told);
        }
        told.add((long) Checks.sendKey(x, 5, 5));
    }

    private static void tellOut(RightsSteps x, List<Long> told) {
        for (int i = 0; i < 4; i++) {
            told.add((long) x.out(i));
        }
        told.add((long) x.digit(0));
    }

    private static void tellTester(RightsSteps x, List<Long> told) {
        tellOut(x, told);
        for (int n = 4; n <= 11; n++) {
            told.add((long) x.open(n));
            told.add((long) x.left(n, NOW));
        }
    }

    private static void tellLog(RightsSteps x, List<Long> told) {
        long uses = x.log(-1, 0);
        told.add(uses);
        for (int i = 0; i <= uses; i++) {
            for (int what = 0; what <= 2; what++) {
                told.add((long) x.log(i, what));
            }
        }
    }
}
