import java.util.Random;

// No call throws but out() and digit(), and these only what the document names: for any arguments,
// also far behind the 512th call.
public final class RightsStepsNeverThrows {
    private static final int[] INTS = {Integer.MIN_VALUE, Integer.MIN_VALUE + 1, -256, -2, -1, 0, 1, 2, 3, 4, 5,
        8, 9, 10, 11, 20, 21, 255, 256, 299, 300, 301, 900, Integer.MAX_VALUE - 1, Integer.MAX_VALUE};
    private static final long[] LONGS = {Long.MIN_VALUE, -1, 0, 1, 100000, 100001, 1L << 32, (1L << 60) - 1,
        1L << 60, (1L << 60) + 1, Long.MAX_VALUE};

    public static void main(String[] args) {
        for (int run = 0; run < 40; run++) {
            manyCalls(new Random(run), run < 20 ? 600 : 20000);
        }
        System.out.println("nothing else was thrown");
    }

    private static void manyCalls(Random dice, int calls) {
        RightsSteps x = new RightsSteps();
        for (int n = 1; n <= 20; n++) {
            x.level(n, n % 3, 1 + n % 3, n);
        }
        for (int tester = 1; tester <= 4; tester++) {
            x.tester(tester);
            x.session(3);
            x.role(1, true, Long.MAX_VALUE);
        }
        for (int i = 0; i < calls; i++) {
            oneCall(x, dice, i);
        }
    }

    private static int number(Random dice) {
        return INTS[dice.nextInt(INTS.length)];
    }

    private static long time(Random dice) {
        return LONGS[dice.nextInt(LONGS.length)];
    }

    private static void oneCall(RightsSteps x, Random dice, int i) {
        switch (dice.nextInt(16)) {
            case 0 -> x.level(number(dice), number(dice), number(dice), time(dice));
            case 1, 2, 3 -> x.tape(dice.nextInt());
            case 4, 5 -> x.seed(1 + dice.nextInt(20), i / 100);
            case 6 -> x.seed(number(dice), dice.nextInt(2000) == 0 ? time(dice) : i / 100);
            case 7 -> outAndDigit(x, number(dice));
            case 8, 9 -> x.key(1 + dice.nextInt(20), (byte) dice.nextInt(), dice.nextInt(4) == 0);
            case 10 -> x.key(number(dice), (byte) number(dice), dice.nextBoolean());
            case 11 -> x.open(number(dice));
            case 12 -> x.role(number(dice), dice.nextBoolean(), time(dice));
            case 13 -> x.left(number(dice), time(dice));
            case 14 -> x.log(number(dice), number(dice));
            default -> seldom(x, dice);
        }
    }

    private static void seldom(RightsSteps x, Random dice) {
        x.tester(number(dice));
        if (dice.nextInt(20) == 0) {
            x.session(number(dice));
        }
        if (dice.nextInt(2000) == 0) {
            x.reset();
        }
    }

    private static void outAndDigit(RightsSteps x, int i) {
        try {
            x.out(i);
        } catch (ArrayIndexOutOfBoundsException e) {
            mustBeOutside(i, 4);
        }
        try {
            x.digit(i);
        } catch (ArrayIndexOutOfBoundsException e) {
            mustBeOutside(i, 1);
        }
    }

    private static void mustBeOutside(int i, int size) {
        if (i >= 0 && i < size) {
            throw new IllegalStateException("thrown at " + i);
        }
    }
}
