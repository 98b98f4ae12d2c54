import java.util.Random;
import java.util.function.Supplier;

/**
 * The arithmetic on numbers with long runs of ones and zeros, where carries and guessed digits go wrong first, on exact
 * multiples, squares and common factors and their neighbours. Each result is looked at whole and held against the
 * model's; the seeds are fixed, and no object is used for more than the 512 calls that the document promises.
 */
public final class HardNumbersTest {
    private static final int RUNS = 12000;
    private static final int MOST_PIECES = 8;
    private static final int HALF_BITS = 2000;

    private final Check check = new Check();
    private Random random;
    private WholeNumbers numbers;
    private Model model;
    private String run;

    public static void main(String[] args) {
        HardNumbersTest test = new HardNumbersTest();
        for (int seed = 1; seed <= RUNS; seed++) {
            test.run(seed);
        }
        test.check.end("HardNumbersTest");
    }

    private void run(int seed) {
        run = "seed " + seed + ": ";
        random = new Random(seed);
        numbers = new WholeNumbers();
        model = new Model();
        build(0);
        build(1);
        relate(random.nextInt(4));
        int t = random.nextInt(3);
        int r = (t + 1 + random.nextInt(2)) % 3;
        call(random.nextInt(9), t, r);
        look(t);
        look(r);
        writeAndRead(t);
    }

    /** A few small pieces far apart: what is added leaves runs of zeros between them, what is taken away runs of ones. */
    private void build(int t) {
        load(t, random.nextBoolean() ? random.nextLong() : 1 - 2 * random.nextInt(2));
        for (int piece = random.nextInt(MOST_PIECES); piece > 0; piece--) {
            shift(t, random.nextBoolean() ? 30 * random.nextInt(60) : random.nextInt(1000));
            addPiece(t);
        }
        if (random.nextInt(3) == 0) {
            shift(t, 4096 - model.bits(t) - random.nextInt(3));
            addPiece(t);
        }
    }

    private void addPiece(int t) {
        load(7, random.nextInt(3) == 0 ? random.nextLong() : random.nextInt(3) - 1);
        reckon(random.nextInt(2), t, t, 7);
    }

    private void relate(int kind) {
        if (kind == 0) {
            return;
        }
        halve(0);
        halve(1);
        if (kind == 1) {
            reckon(2, 0, 0, 1);
        } else if (kind == 2) {
            reckon(2, 0, 0, 0);
        } else {
            build(2);
            halve(2);
            reckon(2, 0, 0, 2);
            reckon(2, 1, 1, 2);
            return;
        }
        load(7, random.nextInt(3) - 1);
        reckon(0, 0, 0, 7);
    }

    /** Cuts a number so that a product with another such one is within the limit. */
    private void halve(int t) {
        if (model.bits(t) > HALF_BITS) {
            shift(t, HALF_BITS - model.bits(t));
        }
    }

    private void call(int kind, int t, int r) {
        int a = random.nextInt(5) == 0 ? 1 : 0;
        int b = random.nextInt(5) == 0 ? 0 : 1;
        switch (kind) {
            case 0, 1, 2 -> reckon(kind, t, a, b);
            case 3, 4, 5 -> {
                boolean floor = random.nextBoolean();
                same("divide(" + t + ", " + r + ", " + a + ", " + b + ", " + floor + ")",
                        () -> numbers.divide(t, r, a, b, floor), () -> model.divide(t, r, a, b, floor));
            }
            case 6 -> same("gcd(" + t + ", " + a + ", " + b + ")",
                    () -> numbers.gcd(t, a, b), () -> model.gcd(t, a, b));
            case 7 -> same("root(" + t + ", " + a + ")", () -> numbers.root(t, a), () -> model.root(t, a));
            default -> {
                int n = 4096 / Math.max(model.bits(a), 1) + random.nextInt(2);
                same("power(" + t + ", " + a + ", " + n + ")",
                        () -> numbers.power(t, a, n), () -> model.power(t, a, n));
            }
        }
    }

    private void look(int t) {
        check.due(run + "register " + t, Hand.get(numbers, t), model.registers[t]);
    }

    private void writeAndRead(int t) {
        int base = 2 + random.nextInt(15);
        same("write(" + t + ", " + base + ")", () -> numbers.write(t, base), () -> model.write(t, base));
        for (int look = 0; look < 20; look++) {
            int i = random.nextInt(model.text.length());
            same("character(" + i + ")", () -> numbers.character(i), () -> model.character(i));
        }
        same("read(5, " + base + ")", () -> numbers.read(5, base), () -> model.read(5, base));
        check.due(run + "compare(5, " + t + ")", numbers.compare(5, t), 0);
    }

    private void load(int t, long v) {
        same("load(" + t + ", " + v + ")", () -> numbers.load(t, v), () -> model.load(t, v));
    }

    private void reckon(int op, int t, int a, int b) {
        same("reckon(" + op + ", " + t + ", " + a + ", " + b + ")",
                () -> numbers.reckon(op, t, a, b), () -> model.reckon(op, t, a, b));
    }

    private void shift(int t, int n) {
        same("shift(" + t + ", " + t + ", " + n + ")", () -> numbers.shift(t, t, n), () -> model.shift(t, t, n));
    }

    private void same(String call, Supplier<Object> got, Supplier<Object> want) {
        check.due(run + call, Check.answer(got), Check.answer(want));
    }
}
