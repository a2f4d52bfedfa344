import java.util.ArrayDeque;
import java.util.ArrayList;
import java.util.HashMap;
import java.util.HashSet;
import java.util.List;
import java.util.Map;
import java.util.Random;
import java.util.Set;

// Runs of 512 calls, drawn from fixed numbers, against a second program written from the document:
// the Java library holds its state, so that a slip of the rows in RightsSteps shows.
public final class RightsStepsModel {
    private static final int RUNS = 4000;
    private static final int CALLS = 512;
    private static final String AIOOBE = "throws.ArrayIndexOutOfBoundsException";

    private static final int[] EDGES = {Integer.MIN_VALUE, -2, -1, 0, 1, 2, 3, 4, 5, 8, 9, 10, 11, 12,
        20, 21, 22, 199, 200, 299, 300, 301, Integer.MAX_VALUE};

    private static final class Person {
        int session = 1;
        Long roleUntil;
        Integer open;
        Integer awaitedLevel;
        int awaitedSeed;
        int out;
        List<Byte> octets = new ArrayList<>();
        Map<Integer, Integer> used = new HashMap<>();
        Map<Integer, Long> locked = new HashMap<>();

        void enter(int kind) {
            session = kind;
            roleUntil = null;
            open = null;
            awaitedLevel = null;
        }
    }

    private static final class Model {
        Map<Integer, long[]> levels = new HashMap<>();
        ArrayDeque<Integer> tape = new ArrayDeque<>();
        Set<Integer> given = new HashSet<>();
        List<int[]> log = new ArrayList<>();
        long time = 0;
        int hand = 1;
        Map<Integer, Person> people = new HashMap<>();

        Model() {
            for (int n = 1; n <= 4; n++) {
                people.put(n, new Person());
            }
        }

        Person me() {
            return people.get(hand);
        }

        int level(int n, int kind, int tries, long delay) {
            if (n < 1 || n > 20) {
                return -1;
            }
            if (kind < 0 || kind > 2 || tries < 1 || tries > 10 || delay < 0 || delay > 100000) {
                return -2;
            }
            if (levels.containsKey(n)) {
                return -3;
            }
            levels.put(n, new long[] {kind, tries, delay});
            return levels.size();
        }

        void tape(int v) {
            if (tape.size() < 200) {
                tape.add(v);
            }
        }

        int seed(int level, long t) {
            if (!levels.containsKey(level)) {
                return -1;
            }
            if (t < time || t > (1L << 60)) {
                return -2;
            }
            time = t;
            int answer = ask(level);
            log.add(new int[] {hand, level, answer});
            return answer;
        }

        int ask(int level) {
            Person me = me();
            if (me.session == 1 || me.session == 2 && level > 10) {
                return -18;
            }
            if (level > 10 && (me.roleUntil == null || time >= me.roleUntil)) {
                return -51;
            }
            if (me.open != null && me.open == level) {
                me.out = 0;
                return 4;
            }
            if (me.locked.containsKey(level) && time < me.locked.get(level)) {
                return -55;
            }
            while (!tape.isEmpty()) {
                int v = tape.remove();
                String hex = String.format("%08x", v);
                if (hex.equals(hex.substring(0, 2).repeat(4)) || given.contains(v)) {
                    continue;
                }
                given.add(v);
                me.out = v;
                me.awaitedLevel = level;
                me.awaitedSeed = v;
                return 4;
            }
            return -34;
        }

        int keyTo(int level, int x) {
            long kind = levels.get(level)[0];
            if (kind == 0) {
                return x ^ 1515870810;
            }
            if (kind == 1) {
                return Integer.rotateLeft(x, 7) * -1640531535 + level;
            }
            int y = x ^ level;
            for (int i = 0; i < 32; i++) {
                y = y % 2 != 0 ? y >>> 1 ^ -306674912 : y >>> 1;
            }
            return y;
        }

        int key(int level, byte b, boolean last) {
            Person me = me();
            me.octets.add(b);
            if (!last) {
                return 0;
            }
            List<Byte> octets = me.octets;
            me.octets = new ArrayList<>();
            if (!levels.containsKey(level)) {
                return -1;
            }
            int answer = judge(me, level, octets);
            log.add(new int[] {hand, level, answer});
            return answer;
        }

        int judge(Person me, int level, List<Byte> octets) {
            if (octets.size() != 4) {
                return -19;
            }
            if (me.awaitedLevel == null || me.awaitedLevel != level) {
                return -36;
            }
            me.awaitedLevel = null;
            int right = keyTo(level, me.awaitedSeed);
            boolean same = true;
            for (int i = 0; i < 4; i++) {
                same &= octets.get(i) == (byte) (right >> (24 - 8 * i));
            }
            if (same) {
                me.open = level;
                me.used.remove(level);
                return 1;
            }
            me.used.merge(level, 1, Integer::sum);
            if (me.used.get(level) < levels.get(level)[1]) {
                return -53;
            }
            me.used.remove(level);
            me.locked.put(level, time + levels.get(level)[2]);
            return -54;
        }

        int open(int level) {
            if (!levels.containsKey(level)) {
                return -1;
            }
            return me().open != null && me().open == level ? 1 : 0;
        }

        int session(int kind) {
            if (kind < 1 || kind > 3) {
                return -2;
            }
            int before = me().session;
            me().enter(kind);
            return before;
        }

        int reset() {
            int opened = 0;
            for (Person one : people.values()) {
                opened += one.open == null ? 0 : 1;
                one.enter(1);
                one.octets.clear();
            }
            given.clear();
            return opened;
        }

        int role(int role, boolean good, long until) {
            if (role < 1 || role > 8) {
                return -1;
            }
            if (!good || until <= time) {
                return 0;
            }
            me().roleUntil = until;
            return 1;
        }

        int left(int level, long t) {
            if (!levels.containsKey(level)) {
                return -1;
            }
            Long until = me().locked.get(level);
            if (until == null || t >= until) {
                return 0;
            }
            java.math.BigInteger rest = java.math.BigInteger.valueOf(until).subtract(java.math.BigInteger.valueOf(t));
            return rest.min(java.math.BigInteger.valueOf(1000000)).intValue();
        }

        int log(int i, int what) {
            if (i == -1 && what == 0) {
                return log.size();
            }
            if (i < 0 || i >= 300 || i >= log.size()) {
                return -1;
            }
            return what < 0 || what > 2 ? -2 : log.get(i)[what];
        }

        String out(int i) {
            return i < 0 || i > 3 ? AIOOBE : "" + (byte) (me().out >> (24 - 8 * i));
        }

        String digit(int i) {
            String digits = Integer.toUnsignedString(me().out);
            return i < 0 || i >= digits.length() ? AIOOBE : digits.substring(i, i + 1);
        }

        int tester(int n) {
            if (n < 1 || n > 4) {
                return -2;
            }
            int before = hand;
            hand = n;
            return before;
        }
    }

    private static String out(RightsSteps x, int i) {
        try {
            return "" + x.out(i);
        } catch (ArrayIndexOutOfBoundsException e) {
            return AIOOBE;
        }
    }

    private static String digit(RightsSteps x, int i) {
        try {
            return "" + x.digit(i);
        } catch (ArrayIndexOutOfBoundsException e) {
            return AIOOBE;
        }
    }

    private static final class Run {
        final Random dice;
        final RightsSteps x = new RightsSteps();
        final Model model = new Model();
        final int width;
        final List<String> calls = new ArrayList<>();
        final Map<Integer, Integer> met = new HashMap<>();
        int keyPlace = 0;

        Run(int run) {
            dice = new Random(run);
            width = 2 + dice.nextInt(19);
        }

        int edge() {
            return dice.nextInt(8) == 0 ? dice.nextInt() : EDGES[dice.nextInt(EDGES.length)];
        }

        int someLevel() {
            int draw = dice.nextInt(60);
            if (draw == 0) {
                return edge();
            }
            return draw < 20 && model.me().awaitedLevel != null ? model.me().awaitedLevel
                    : 1 + (dice.nextInt(width) * 7) % 20;
        }

        long someTime() {
            int draw = dice.nextInt(100);
            if (draw == 0) {
                long[] times = {Long.MIN_VALUE, -1, 0, model.time - 1, (1L << 60) + 1, Long.MAX_VALUE};
                return times[dice.nextInt(times.length)];
            }
            if (draw == 1 && dice.nextInt(60) == 0) {
                return 1L << 60;
            }
            return model.time + (draw < 50 ? 0 : dice.nextInt(12));
        }

        int someNumber() {
            int draw = dice.nextInt(10);
            if (draw < 2) {
                return dice.nextInt(256) * 0x01010101;
            }
            return draw < 7 ? dice.nextInt(60) * 0x01000301 : dice.nextInt();
        }

        /** The next octet of the right key most times, so that levels open. */
        byte someOctet(int place) {
            Person me = model.me();
            if (me.awaitedLevel == null || dice.nextInt(20) == 0) {
                return (byte) dice.nextInt();
            }
            return (byte) (model.keyTo(me.awaitedLevel, me.awaitedSeed) >> (24 - 8 * (place & 3)));
        }

        boolean met(String call, String got, String want) {
            calls.add(call + " -> " + got);
            if (got.equals(want)) {
                return true;
            }
            System.out.println(String.join("\n", calls));
            System.out.println("due is " + want);
            return false;
        }

        boolean met(String call, int got, int want) {
            met.merge(got, 1, Integer::sum);
            return met(call, "" + got, "" + want);
        }

        boolean oneCall() {
            int draw = dice.nextInt(100);
            if (draw < 40) {
                return keyCall();
            }
            if (draw < 58) {
                int level = someLevel();
                long t = someTime();
                return met("seed(" + level + ", " + t + ")", x.seed(level, t), model.seed(level, t));
            }
            if (draw < 72) {
                int v = someNumber();
                x.tape(v);
                model.tape(v);
                return met("tape(" + v + ")", "", "");
            }
            return draw < 85 ? changingCall(draw) : askingCall(draw);
        }

        boolean keyCall() {
            Person me = model.me();
            int place = me.octets.size();
            boolean last = dice.nextInt(30) == 0 || place >= 3 && dice.nextInt(20) != 0;
            int level = someLevel();
            if (last && me.awaitedLevel != null && dice.nextInt(10) != 0) {
                level = me.awaitedLevel;
            }
            byte b = someOctet(place);
            return met("key(" + level + ", " + b + ", " + last + ")", x.key(level, b, last), model.key(level, b, last));
        }

        boolean changingCall(int draw) {
            if (draw < 77) {
                int n = someLevel();
                int kind = dice.nextInt(20) == 0 ? edge() : dice.nextInt(3);
                int tries = dice.nextInt(20) == 0 ? edge() : 1 + dice.nextInt(3);
                long delay = dice.nextInt(20) == 0 ? 99999L + dice.nextInt(3) : dice.nextInt(30) - (dice.nextInt(30) == 0 ? 30 : 0);
                return met("level(" + n + ", " + kind + ", " + tries + ", " + delay + ")",
                        x.level(n, kind, tries, delay), model.level(n, kind, tries, delay));
            }
            if (draw < 79) {
                int kind = dice.nextInt(10) == 0 ? edge() : 2 + dice.nextInt(2);
                return met("session(" + kind + ")", x.session(kind), model.session(kind));
            }
            if (draw < 80) {
                return dice.nextInt(4) != 0 || met("reset()", x.reset(), model.reset());
            }
            if (draw < 83) {
                int role = dice.nextInt(10) == 0 ? edge() : 1 + dice.nextInt(8);
                boolean good = dice.nextInt(8) != 0;
                long until = dice.nextInt(10) == 0 ? edge() : model.time + dice.nextInt(80);
                return met("role(" + role + ", " + good + ", " + until + ")",
                        x.role(role, good, until), model.role(role, good, until));
            }
            int n = dice.nextInt(10) == 0 ? edge() : 1 + dice.nextInt(4);
            return met("tester(" + n + ")", x.tester(n), model.tester(n));
        }

        boolean askingCall(int draw) {
            if (draw < 88) {
                int level = someLevel();
                return met("open(" + level + ")", x.open(level), model.open(level));
            }
            if (draw < 91) {
                int level = someLevel();
                long t = dice.nextInt(4) == 0 ? dice.nextLong() : model.time + dice.nextInt(60) - 30;
                return met("left(" + level + ", " + t + ")", x.left(level, t), model.left(level, t));
            }
            if (draw < 95) {
                int i = dice.nextInt(4) == 0 ? edge() : dice.nextInt(model.log.size() + 2) - 1;
                int what = dice.nextInt(10) == 0 ? edge() : dice.nextInt(3);
                return met("log(" + i + ", " + what + ")", x.log(i, what), model.log(i, what));
            }
            int i = dice.nextInt(10) == 0 ? edge() : dice.nextInt(11);
            if (draw < 97) {
                return met("out(" + i + ")", out(x, i), model.out(i));
            }
            return met("digit(" + i + ")", digit(x, i), model.digit(i));
        }
    }

    public static void main(String[] args) {
        Map<Integer, Integer> met = new HashMap<>();
        for (int run = 0; run < RUNS; run++) {
            Run one = new Run(run);
            for (int call = 0; call < CALLS; call++) {
                if (!one.oneCall()) {
                    System.out.println("run " + run);
                    System.exit(1);
                }
            }
            one.met.forEach((answer, times) -> met.merge(answer, times, Integer::sum));
        }
        int[] mustCome = {-55, -54, -53, -51, -36, -34, -19, -18, -3, -2, -1, 0, 1, 4};
        for (int answer : mustCome) {
            if (met.getOrDefault(answer, 0) < 500) {
                System.out.println("the runs seldom meet " + answer + ": they are drawn badly");
                System.exit(1);
            }
        }
        System.out.println("as the second program: " + RUNS + " runs");
    }
}
