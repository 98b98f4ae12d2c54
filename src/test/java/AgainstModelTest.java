import java.util.Random;
import java.util.function.Supplier;

/** Long runs of drawn calls, every answer held against the model's; the seeds are fixed, so each run is the same. */
public final class AgainstModelTest {
    private static final int RUNS = 4000;
    private static final int STEPS = 150;
    private static final long[] LONGS = {
        0, 1, -1, 2, -2, 3, 7, 10, 16, -17, 255, 1 << 15, (1L << 30) - 1, 1L << 30, (1L << 60) - 1, -(1L << 60),
        1L << 62, Long.MAX_VALUE, Long.MIN_VALUE, Long.MIN_VALUE + 1, -1000000007L, 998244353L,
    };
    private static final int[] INTS = {
        0, 1, -1, 2, 29, 30, 31, 59, 60, 61, 62, 63, 64, 2048, 4066, 4067, 4095, 4096, 4097, -29, -30, -31, -60,
        -4095, -4096, -4097, 5000, Integer.MAX_VALUE, Integer.MAX_VALUE - 29, Integer.MIN_VALUE,
    };

    private final Check check = new Check();
    private Random random;
    private WholeNumbers numbers;
    private Model model;
    private int seed;

    public static void main(String[] args) {
        AgainstModelTest test = new AgainstModelTest();
        for (int seed = 1; seed <= RUNS; seed++) {
            test.run(seed);
        }
        test.check.end("AgainstModelTest");
    }

    private void run(int newSeed) {
        seed = newSeed;
        random = new Random(seed);
        numbers = new WholeNumbers();
        model = new Model();
        // With two looks behind each step a run stays within the 512 calls that the document promises.
        for (int step = 0; step < STEPS; step++) {
            call(random.nextInt(26));
            look();
        }
    }

    private void look() {
        int a = random.nextInt(8);
        int i = random.nextInt(Math.max(model.bits(a), 1));
        same("part(" + a + ", " + i + ")", () -> numbers.part(a, i), () -> model.part(a, i));
        int b = random.nextInt(8);
        same("sign(" + b + ")", () -> numbers.sign(b), () -> model.sign(b));
    }

    private void call(int kind) {
        int t = register();
        int a = register();
        int b = register();
        int n = number();
        switch (kind) {
            case 0, 1, 2 -> {
                long v = random.nextBoolean() ? LONGS[random.nextInt(LONGS.length)] : random.nextLong();
                same("load(" + t + ", " + v + ")", () -> numbers.load(t, v), () -> model.load(t, v));
            }
            case 3, 4, 5, 6 -> {
                int op = random.nextInt(30) == 0 ? number() : random.nextInt(3);
                same("reckon(" + op + ", " + t + ", " + a + ", " + b + ")",
                        () -> numbers.reckon(op, t, a, b), () -> model.reckon(op, t, a, b));
            }
            case 7, 8, 9 -> {
                int r = register();
                boolean floor = random.nextBoolean();
                same("divide(" + t + ", " + r + ", " + a + ", " + b + ", " + floor + ")",
                        () -> numbers.divide(t, r, a, b, floor), () -> model.divide(t, r, a, b, floor));
            }
            case 10 -> same("gcd(" + t + ", " + a + ", " + b + ")",
                    () -> numbers.gcd(t, a, b), () -> model.gcd(t, a, b));
            case 11 -> same("root(" + t + ", " + a + ")", () -> numbers.root(t, a), () -> model.root(t, a));
            case 12, 13 -> {
                int by = random.nextBoolean() ? n : random.nextInt(8193) - 4096;
                same("shift(" + t + ", " + a + ", " + by + ")",
                        () -> numbers.shift(t, a, by), () -> model.shift(t, a, by));
            }
            case 14, 15 -> {
                int by = random.nextInt(5) == 0 ? n : fittingPower(a);
                same("power(" + t + ", " + a + ", " + by + ")",
                        () -> numbers.power(t, a, by), () -> model.power(t, a, by));
            }
            case 16 -> same("compare(" + a + ", " + b + ")", () -> numbers.compare(a, b), () -> model.compare(a, b));
            case 17 -> same("bits(" + a + ")", () -> numbers.bits(a), () -> model.bits(a));
            case 18 -> same("part(" + a + ", " + n + ")", () -> numbers.part(a, n), () -> model.part(a, n));
            case 19 -> {
                int below = random.nextBoolean() ? n : lowestOne(a) + random.nextInt(3);
                same("hasBelow(" + a + ", " + below + ")",
                        () -> numbers.hasBelow(a, below), () -> model.hasBelow(a, below));
            }
            case 20 -> {
                same("fits(" + a + ")", () -> numbers.fits(a), () -> model.fits(a));
                same("low(" + a + ")", () -> numbers.low(a), () -> model.low(a));
            }
            default -> callOnText(kind, t, n);
        }
    }

    private void callOnText(int kind, int t, int n) {
        int base = random.nextInt(20) == 0 ? n : 2 + random.nextInt(15);
        switch (kind) {
            case 21 -> same("write(" + t + ", " + base + ")", () -> numbers.write(t, base), () -> model.write(t, base));
            case 22 -> {
                String likely = "-0123456789abcdefABCDEFgG/:@`";
                int code = random.nextInt(9) == 0 ? n : likely.charAt(random.nextInt(random.nextInt(29) + 1));
                same("type(" + code + ")", () -> numbers.type(code), () -> model.type(code));
            }
            case 23 -> {
                if (random.nextInt(3) == 0) {
                    numbers.clear();
                    model.clear();
                }
            }
            case 24 -> {
                int i = random.nextInt(4) == 0 ? n : random.nextInt(model.text.length() + 2) - 1;
                same("character(" + i + ")", () -> numbers.character(i), () -> model.character(i));
            }
            default -> same("read(" + t + ", " + base + ")", () -> numbers.read(t, base), () -> model.read(t, base));
        }
    }

    private int register() {
        return random.nextInt(60) == 0 ? number() : random.nextInt(8);
    }

    private int number() {
        return INTS[random.nextInt(INTS.length)];
    }

    private int fittingPower(int a) {
        int bits = Model.known(a) ? model.bits(a) : 1;
        return bits < 2 ? random.nextInt(4097) : random.nextInt(4096 / (bits - 1) + 2);
    }

    private int lowestOne(int a) {
        return Model.known(a) ? model.registers[a].getLowestSetBit() : 0;
    }

    private void same(String call, Supplier<Object> got, Supplier<Object> want) {
        check.due("seed " + seed + ": " + call, Check.answer(got), Check.answer(want));
    }
}
