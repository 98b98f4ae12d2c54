import java.math.BigInteger;
import java.util.function.Supplier;

/**
 * Every promise of the document by hand: ordinary inputs, the edges that it names, and wrong inputs. Looking at a whole
 * long text takes more calls than the 512 that the document promises; the class has no such end, and is held to that.
 */
public final class PromisesTest {
    private static final BigInteger ONE = BigInteger.ONE;
    private static final BigInteger TWO = BigInteger.TWO;
    private static final BigInteger GREATEST = TWO.pow(4096).subtract(ONE);
    private static final int[] NO_REGISTERS = {-1, 8, Integer.MIN_VALUE, Integer.MAX_VALUE};

    private final Check check = new Check();
    private int promise;
    private WholeNumbers x;

    public static void main(String[] args) {
        PromisesTest test = new PromisesTest();
        test.newObject();
        test.load();
        test.reckon();
        test.reckonAtTheLimit();
        test.divide();
        test.divideInPlace();
        test.divideLong();
        test.divideRefused();
        test.gcd();
        test.gcdLong();
        test.root();
        test.rootLong();
        test.shift();
        test.power();
        test.compare();
        test.sign();
        test.bits();
        test.part();
        test.hasBelow();
        test.low();
        test.fits();
        test.write();
        test.type();
        test.clear();
        test.character();
        test.read();
        test.readRefused();
        test.check.end("PromisesTest");
    }

    private void begin(int number) {
        promise = number;
        x = new WholeNumbers();
    }

    private void due(String call, Object got, Object want) {
        check.due("promise " + promise + ": " + call, got, want);
    }

    private void dueThrow(String call, Supplier<Object> made, String name) {
        Object got;
        try {
            got = made.get();
        } catch (RuntimeException e) {
            got = e.getClass().getSimpleName();
        }
        due(call, got, name);
    }

    private void loads(long... values) {
        for (int i = 0; i < values.length; i++) {
            x.load(i, values[i]);
        }
    }

    private void put(int t, BigInteger value) {
        Hand.put(x, t, value);
    }

    private BigInteger get(int t) {
        return Hand.get(x, t);
    }

    private void type(String letters) {
        Hand.type(x, letters);
    }

    private String text() {
        return Hand.text(x);
    }

    private void newObject() {
        begin(1);
        for (int a = 0; a < 8; a++) {
            due("sign(" + a + ")", x.sign(a), 0);
            due("bits(" + a + ")", x.bits(a), 0);
            due("low(" + a + ")", x.low(a), 0L);
        }
        due("character(0)", x.character(0), -1);
        x.load(0, 5);
        x.type('5');
        WholeNumbers other = new WholeNumbers();
        due("low(0) of another object", other.low(0), 0L);
        due("character(0) of another object", other.character(0), -1);
    }

    private void load() {
        begin(2);
        for (long v : new long[] {0, 1, -1, 1L << 30, -(1L << 60), Long.MAX_VALUE, Long.MIN_VALUE}) {
            for (int t = 0; t < 8; t++) {
                due("load(" + t + ", " + v + ")", x.load(t, v), true);
                due("low behind load(" + t + ", " + v + ")", x.low(t), v);
                due("number behind load(" + t + ", " + v + ")", get(t), BigInteger.valueOf(v));
            }
        }
        loads(1, 2, 3, 4, 5, 6, 7, 8);
        for (int t : NO_REGISTERS) {
            due("load(" + t + ", 9)", x.load(t, 9), false);
        }
        for (int t = 0; t < 8; t++) {
            due("low(" + t + ") behind refused loads", x.low(t), t + 1L);
        }
    }

    private void reckon() {
        begin(3);
        long[] values = {0, 1, -1, 5, -7, (1L << 30) - 1, -(1L << 30), Long.MAX_VALUE, Long.MIN_VALUE};
        for (long v : values) {
            for (long w : values) {
                begin(3);
                loads(v, w);
                BigInteger a = BigInteger.valueOf(v);
                BigInteger b = BigInteger.valueOf(w);
                dueReckon(0, a.add(b));
                dueReckon(1, a.subtract(b));
                dueReckon(2, a.multiply(b));
            }
        }
        loads(6, 7);
        due("reckon(2, 0, 0, 0)", x.reckon(2, 0, 0, 0), 6);
        due("low(0)", x.low(0), 36L);
        due("reckon(1, 1, 0, 1)", x.reckon(1, 1, 0, 1), 5);
        due("low(1)", x.low(1), 29L);
        due("reckon(1, 1, 1, 1)", x.reckon(1, 1, 1, 1), 0);
        due("sign(1)", x.sign(1), 0);
        for (int op : new int[] {-1, 3, Integer.MIN_VALUE, Integer.MAX_VALUE}) {
            due("reckon(" + op + ", 0, 0, 0)", x.reckon(op, 0, 0, 0), -1);
        }
        for (int none : NO_REGISTERS) {
            for (int op = 0; op < 3; op++) {
                due("reckon(" + op + ", " + none + ", 0, 0)", x.reckon(op, none, 0, 0), -1);
                due("reckon(" + op + ", 0, " + none + ", 0)", x.reckon(op, 0, none, 0), -1);
                due("reckon(" + op + ", 0, 0, " + none + ")", x.reckon(op, 0, 0, none), -1);
            }
        }
        due("low(0) behind refused calls", x.low(0), 36L);
    }

    private void dueReckon(int op, BigInteger want) {
        due("reckon(" + op + ", 2, 0, 1)", x.reckon(op, 2, 0, 1), want.abs().bitLength());
        due("number behind reckon(" + op + ", 2, 0, 1)", get(2), want);
    }

    private void reckonAtTheLimit() {
        begin(3);
        loads(1, 1);
        x.shift(0, 0, 4095);
        due("2^4095 + 2^4095", x.reckon(0, 2, 0, 0), -1);
        due("2^4095 * 2^4095", x.reckon(2, 2, 0, 0), -1);
        due("the refused calls keep t", x.bits(2), 0);
        x.reckon(1, 3, 0, 1);
        due("2^4095 + (2^4095 - 1)", x.reckon(0, 2, 0, 3), 4096);
        due("that number", get(2), GREATEST);
        due("greatest + 1", x.reckon(0, 2, 2, 1), -1);
        due("greatest + 1 keeps t", get(2), GREATEST);

        begin(3);
        put(0, GREATEST.negate());
        x.load(1, 1);
        due("-greatest - 1", x.reckon(1, 2, 0, 1), -1);
        due("-greatest + 1", x.reckon(0, 2, 0, 1), 4096);
        due("0 - -greatest", x.reckon(1, 2, 3, 0), 4096);
        due("greatest * -greatest", x.reckon(2, 3, 2, 0), -1);
        due("greatest * 0", x.reckon(2, 3, 2, 3), 0);

        begin(3);
        loads(1, 1);
        x.shift(0, 0, 2048);
        due("2^2048 * 2^2048", x.reckon(2, 2, 0, 0), -1);
        x.reckon(1, 1, 0, 1);
        due("(2^2048 - 1)^2", x.reckon(2, 2, 1, 1), 4096);
        due("that number", get(2), TWO.pow(2048).subtract(ONE).pow(2));
        due("2^2048 * (2^2048 - 1)", x.reckon(2, 3, 0, 1), 4096);
        due("that number", get(3), TWO.pow(4096).subtract(TWO.pow(2048)));
    }

    private void divide() {
        long[][] rows = {
            // a, b, cut: quotient, rest; downwards: quotient, rest
            {7, 2, 3, 1, 3, 1}, {-7, 2, -3, -1, -4, 1}, {7, -2, -3, 1, -4, -1}, {-7, -2, 3, -1, 3, -1},
            {6, -2, -3, 0, -3, 0}, {-6, 2, -3, 0, -3, 0}, {-6, -2, 3, 0, 3, 0},
            {0, 5, 0, 0, 0, 0}, {0, -5, 0, 0, 0, 0}, {1, 5, 0, 1, 0, 1}, {-1, 5, 0, -1, -1, 4}, {1, -5, 0, 1, -1, -4},
            {5, 5, 1, 0, 1, 0}, {-5, 5, -1, 0, -1, 0}, {Long.MIN_VALUE, 1, Long.MIN_VALUE, 0, Long.MIN_VALUE, 0},
            {Long.MAX_VALUE, 1L << 30, (1L << 33) - 1, (1L << 30) - 1, (1L << 33) - 1, (1L << 30) - 1},
        };
        for (long[] row : rows) {
            begin(4);
            loads(row[0], row[1]);
            dueDivide(false, row[2], row[3]);
            dueDivide(true, row[4], row[5]);
        }
    }

    private void dueDivide(boolean floor, long quotient, long rest) {
        String call = x.low(0) + " by " + x.low(1) + (floor ? ", downwards" : ", cut");
        int bits = BigInteger.valueOf(quotient).abs().bitLength();
        due(call, x.divide(2, 3, 0, 1, floor), bits);
        due("quotient of " + call, x.low(2), quotient);
        due("rest of " + call, x.low(3), rest);
    }

    private void divideInPlace() {
        int[][] places = {{0, 1, 3, 2}, {1, 0, 2, 3}, {0, 2, 3, 2}, {1, 2, 2, 3}, {2, 0, 3, 2}, {2, 1, 2, 3}};
        for (int[] p : places) {
            begin(4);
            loads(-100, 7);
            due("divide(" + p[0] + ", " + p[1] + ", 0, 1, true)", x.divide(p[0], p[1], 0, 1, true), 4);
            due("its quotient", x.low(p[0]), -15L);
            due("its rest", x.low(p[1]), 5L);
        }
        begin(4);
        loads(-9);
        due("divide(0, 1, 0, 0, true)", x.divide(0, 1, 0, 0, true), 1);
        due("its quotient", x.low(0), 1L);
        due("its rest", x.low(1), 0L);
    }

    private void divideLong() {
        BigInteger limb = TWO.pow(30);
        BigInteger half = TWO.pow(29);
        BigInteger[][] pairs = {
            {GREATEST, ONE}, {GREATEST, GREATEST}, {GREATEST, TWO.pow(2048)}, {GREATEST, TWO.pow(2048).add(ONE)},
            {TWO.pow(4095), GREATEST}, {GREATEST, TWO.pow(4095)}, {TWO.pow(4000), TWO.pow(60).subtract(ONE)},
            {GREATEST, BigInteger.valueOf(3)}, {BigInteger.TEN.pow(1200), BigInteger.TEN.pow(300)},
            // Here the first guess at a digit of the quotient is too great even after its correction.
            {half.subtract(ONE).multiply(limb).add(half).multiply(limb.pow(2)), half.multiply(limb.pow(2)).add(ONE)},
            {half.multiply(limb.pow(2)).add(BigInteger.valueOf(3)), TWO.pow(27).multiply(limb.pow(2)).add(ONE)},
            {limb.pow(3).subtract(ONE).multiply(limb.pow(2)), limb.pow(2).subtract(ONE)},
            {limb.pow(4).subtract(limb.pow(2)), limb.pow(2).subtract(ONE)},
            // Here it is 2 too great at first.
            {half.multiply(limb.pow(2)), half.multiply(limb).add(limb).subtract(ONE)},
            {half.multiply(limb.pow(5)), half.multiply(limb).add(limb).subtract(ONE)},
            // The rest is 0, and the lowest limb decides on the digit.
            {TWO.pow(59).add(BigInteger.TEN).multiply(BigInteger.valueOf(77)), TWO.pow(59).add(BigInteger.TEN)},
        };
        for (BigInteger[] pair : pairs) {
            for (int signs = 0; signs < 4; signs++) {
                BigInteger a = (signs & 1) == 0 ? pair[0] : pair[0].negate();
                BigInteger b = (signs & 2) == 0 ? pair[1] : pair[1].negate();
                BigInteger[] cut = a.divideAndRemainder(b);
                dueLongDivide(a, b, false, cut[0], cut[1]);
                boolean down = a.signum() != b.signum() && cut[1].signum() != 0;
                dueLongDivide(a, b, true, down ? cut[0].subtract(ONE) : cut[0], down ? cut[1].add(b) : cut[1]);
            }
        }
    }

    private void dueLongDivide(BigInteger a, BigInteger b, boolean floor, BigInteger quotient, BigInteger rest) {
        begin(4);
        put(0, a);
        put(1, b);
        due(a + " by " + b + " " + floor, x.divide(2, 3, 0, 1, floor), quotient.abs().bitLength());
        due("its quotient", get(2), quotient);
        due("its rest", get(3), rest);
    }

    private void divideRefused() {
        begin(4);
        loads(17, 5, 70, 80, 0);
        for (int none : NO_REGISTERS) {
            due("divide(" + none + ", 3, 0, 1, true)", x.divide(none, 3, 0, 1, true), -1);
            due("divide(2, " + none + ", 0, 1, true)", x.divide(2, none, 0, 1, true), -1);
            due("divide(2, 3, " + none + ", 1, true)", x.divide(2, 3, none, 1, true), -1);
            due("divide(2, 3, 0, " + none + ", true)", x.divide(2, 3, 0, none, true), -1);
            due("divide(" + none + ", 3, 0, 4, true)", x.divide(none, 3, 0, 4, true), -1);
            due("divide(2, 3, " + none + ", 4, true)", x.divide(2, 3, none, 4, true), -1);
        }
        due("divide(2, 2, 0, 1, false)", x.divide(2, 2, 0, 1, false), -1);
        due("divide(2, 2, 0, 4, false)", x.divide(2, 2, 0, 4, false), -1);
        dueThrow("divide(2, 3, 0, 4, false)", () -> x.divide(2, 3, 0, 4, false), "ArithmeticException");
        dueThrow("divide(2, 3, 0, 4, true)", () -> x.divide(2, 3, 0, 4, true), "ArithmeticException");
        dueThrow("divide(2, 3, 4, 4, true)", () -> x.divide(2, 3, 4, 4, true), "ArithmeticException");
        due("low(2) behind them", x.low(2), 70L);
        due("low(3) behind them", x.low(3), 80L);
    }

    private void gcd() {
        long[][] rows = {
            {48, -180, 12}, {0, 0, 0}, {0, -7, 7}, {-7, 0, 7}, {1, 0, 1}, {-1, -1, 1}, {17, 31, 1}, {-12, -18, 6},
            {Long.MIN_VALUE, 1L << 40, 1L << 40}, {Long.MAX_VALUE, 49, 49}, {1L << 30, 1L << 31, 1L << 30},
        };
        for (long[] row : rows) {
            begin(5);
            loads(row[0], row[1]);
            String call = "gcd of " + row[0] + " and " + row[1];
            due(call, x.gcd(2, 0, 1), BigInteger.valueOf(row[2]).bitLength());
            due("the number of " + call, x.low(2), row[2]);
            due(call + " over the second", x.gcd(1, 0, 1), BigInteger.valueOf(row[2]).bitLength());
            due("the number of " + call, x.low(1), row[2]);
        }
        begin(5);
        loads(-6, 4);
        due("gcd(0, 0, 0)", x.gcd(0, 0, 0), 3);
        due("low(0)", x.low(0), 6L);
        for (int none : NO_REGISTERS) {
            due("gcd(" + none + ", 0, 1)", x.gcd(none, 0, 1), -1);
            due("gcd(0, " + none + ", 1)", x.gcd(0, none, 1), -1);
            due("gcd(0, 1, " + none + ")", x.gcd(0, 1, none), -1);
        }
        due("low(0) behind refused calls", x.low(0), 6L);
    }

    private void gcdLong() {
        BigInteger[] fibonacci = {ONE, ONE};
        while (fibonacci[1].bitLength() < 4096) {
            fibonacci = new BigInteger[] {fibonacci[1], fibonacci[0].add(fibonacci[1])};
        }
        BigInteger common = BigInteger.TEN.pow(200).add(ONE);
        BigInteger[][] pairs = {
            {fibonacci[0], fibonacci[1]}, {fibonacci[1].negate(), fibonacci[0]}, {GREATEST, GREATEST},
            {GREATEST, TWO.pow(2048).subtract(ONE)}, {TWO.pow(4095), TWO.pow(17).negate()}, {GREATEST, ONE},
            {common.multiply(TWO.pow(3000).add(ONE)), common.multiply(TWO.pow(2999).subtract(ONE))},
            {common.multiply(BigInteger.valueOf(6).pow(900)), common.multiply(BigInteger.valueOf(15).pow(700))},
            {GREATEST, TWO.pow(4096).subtract(TWO)}, {GREATEST, BigInteger.ZERO},
        };
        for (BigInteger[] pair : pairs) {
            begin(5);
            put(0, pair[0]);
            put(1, pair[1]);
            BigInteger want = pair[0].gcd(pair[1]);
            due("gcd of " + pair[0] + " and " + pair[1], x.gcd(2, 0, 1), want.bitLength());
            due("that number", get(2), want);
        }
    }

    private void root() {
        begin(6);
        long[][] rows = {
            {0, 0}, {1, 1}, {2, 1}, {3, 1}, {4, 2}, {8, 2}, {9, 3}, {15, 3}, {16, 4}, {99, 9}, {100, 10},
            {(1L << 60) - 1, (1L << 30) - 1}, {1L << 60, 1L << 30}, {Long.MAX_VALUE, 3037000499L},
        };
        for (long[] row : rows) {
            loads(row[0], 77);
            due("root of " + row[0], x.root(1, 0), BigInteger.valueOf(row[1]).bitLength());
            due("that number", x.low(1), row[1]);
        }
        loads(50, 77, -1);
        due("root(0, 0)", x.root(0, 0), 3);
        due("low(0)", x.low(0), 7L);
        dueThrow("root(1, 2)", () -> x.root(1, 2), "IllegalArgumentException");
        due("low(1) behind it", x.low(1), 77L);
        dueThrow("root(2, 2)", () -> x.root(2, 2), "IllegalArgumentException");
        due("low(2) behind it", x.low(2), -1L);
        for (int none : NO_REGISTERS) {
            due("root(" + none + ", 0)", x.root(none, 0), -1);
            due("root(" + none + ", 2)", x.root(none, 2), -1);
            due("root(0, " + none + ")", x.root(0, none), -1);
        }
        due("low(0) behind refused calls", x.low(0), 7L);
    }

    private void rootLong() {
        BigInteger odd = BigInteger.valueOf(7).pow(700);
        BigInteger[] squares = {
            GREATEST, TWO.pow(4095), TWO.pow(4094), TWO.pow(4094).subtract(ONE), odd.pow(2), odd.pow(2).subtract(ONE),
            odd.pow(2).add(ONE), odd.add(ONE).pow(2).subtract(ONE), BigInteger.TEN.pow(1001), TWO.pow(63), TWO.pow(64),
        };
        for (BigInteger square : squares) {
            begin(6);
            put(0, square);
            due("root of " + square, x.root(1, 0), square.sqrt().bitLength());
            due("that number", get(1), square.sqrt());
        }
    }

    private void shift() {
        begin(7);
        long[][] rows = {
            {5, 0, 5}, {5, 1, 10}, {-5, 1, -10}, {-5, -1, -2}, {5, -1, 2}, {-1, -1, 0}, {1, 30, 1L << 30},
            {1L << 30, -30, 1}, {-7, -4096, 0}, {0, 4096, 0}, {0, -4096, 0}, {3, 60, 3L << 60},
            {-1, 63, Long.MIN_VALUE},
            {Long.MIN_VALUE, -63, -1}, {Long.MIN_VALUE, -64, 0}, {Long.MAX_VALUE, -29, Long.MAX_VALUE >> 29},
        };
        for (long[] row : rows) {
            loads(row[0], 77);
            int bits = BigInteger.valueOf(row[2]).abs().bitLength();
            due("shift of " + row[0] + " by " + row[1], x.shift(1, 0, (int) row[1]), bits);
            due("that number", x.low(1), row[2]);
            due("its sign", x.sign(1), Long.signum(row[2]));
        }
        loads(1, -3);
        due("shift(2, 0, 4095)", x.shift(2, 0, 4095), 4096);
        due("that number", get(2), TWO.pow(4095));
        due("shift(2, 0, 4096)", x.shift(2, 0, 4096), -1);
        due("shift(2, 1, 4094)", x.shift(2, 1, 4094), 4096);
        due("that number", get(2), TWO.pow(4094).multiply(BigInteger.valueOf(-3)));
        due("shift(2, 1, 4095)", x.shift(2, 1, 4095), -1);
        due("shift(2, 2, 1)", x.shift(2, 2, 1), -1);
        due("shift(2, 2, 4096)", x.shift(2, 2, 4096), -1);
        for (int n : new int[] {4097, -4097, Integer.MAX_VALUE, Integer.MIN_VALUE}) {
            due("shift(2, 3, " + n + ")", x.shift(2, 3, n), -1);
        }
        for (int none : NO_REGISTERS) {
            due("shift(" + none + ", 0, 1)", x.shift(none, 0, 1), -1);
            due("shift(0, " + none + ", 1)", x.shift(0, none, 1), -1);
        }
        due("bits(2) behind refused calls", x.bits(2), 4096);
        due("shift(2, 2, -4095)", x.shift(2, 2, -4095), 1);
        due("low(2)", x.low(2), -1L);
    }

    private void power() {
        begin(8);
        long[][] rows = {
            {0, 0, 1}, {0, 1, 0}, {0, 4096, 0}, {1, 4096, 1}, {-1, 4096, 1}, {-1, 4095, -1}, {-7, 3, -343}, {-7, 0, 1},
            {10, 18, 1000000000000000000L}, {2, 62, 1L << 62}, {-2, 63, Long.MIN_VALUE},
            {Long.MIN_VALUE, 1, Long.MIN_VALUE},
        };
        for (long[] row : rows) {
            loads(row[0], 77);
            int bits = BigInteger.valueOf(row[2]).abs().bitLength();
            due(row[0] + " to the " + row[1], x.power(1, 0, (int) row[1]), bits);
            due("that number", x.low(1), row[2]);
        }
        loads(2, 3, 77, -3);
        due("2^4095", x.power(2, 0, 4095), 4096);
        due("that number", get(2), TWO.pow(4095));
        due("2^4096", x.power(2, 0, 4096), -1);
        due("2^4096 keeps t", get(2), TWO.pow(4095));
        due("3^2584", x.power(2, 1, 2584), 4096);
        due("that number", get(2), BigInteger.valueOf(3).pow(2584));
        due("3^2585", x.power(2, 1, 2585), -1);
        due("(-3)^2583", x.power(3, 3, 2583), 4094);
        due("that number", get(3), BigInteger.valueOf(-3).pow(2583));
        due("the greatest to the 1", x.power(4, 2, 1), 4096);
        due("the greatest to the 2", x.power(4, 2, 2), -1);
        due("the greatest to the 0", x.power(4, 2, 0), 1);
        for (int n : new int[] {-1, 4097, Integer.MIN_VALUE, Integer.MAX_VALUE}) {
            due("power(4, 5, " + n + ")", x.power(4, 5, n), -1);
        }
        for (int none : NO_REGISTERS) {
            due("power(" + none + ", 0, 0)", x.power(none, 0, 0), -1);
            due("power(4, " + none + ", 0)", x.power(4, none, 0), -1);
        }
        due("low(4) behind refused calls", x.low(4), 1L);
    }

    private void compare() {
        begin(9);
        long[] rising = {Long.MIN_VALUE, -(1L << 30), -2, -1, 0, 1, 2, Long.MAX_VALUE};
        loads(rising);
        for (int a = 0; a < 8; a++) {
            for (int b = 0; b < 8; b++) {
                due("compare(" + a + ", " + b + ")", x.compare(a, b), Integer.compare(a, b));
            }
        }
        for (int none : NO_REGISTERS) {
            due("compare(" + none + ", 0)", x.compare(none, 0), 2);
            due("compare(0, " + none + ")", x.compare(0, none), 2);
        }
        put(0, GREATEST);
        put(1, GREATEST.subtract(ONE));
        put(2, GREATEST.negate());
        put(3, TWO.pow(3000));
        due("compare(0, 1)", x.compare(0, 1), 1);
        due("compare(1, 0)", x.compare(1, 0), -1);
        due("compare(2, 1)", x.compare(2, 1), -1);
        due("compare(3, 1)", x.compare(3, 1), -1);
        due("compare(3, 2)", x.compare(3, 2), 1);
    }

    private void sign() {
        begin(10);
        loads(-5, 0, 5, Long.MIN_VALUE);
        int[] signs = {-1, 0, 1, -1, 0};
        for (int a = 0; a < signs.length; a++) {
            due("sign(" + a + ")", x.sign(a), signs[a]);
        }
        x.reckon(2, 4, 0, 1);
        due("sign of -5 times 0", x.sign(4), 0);
        x.shift(4, 0, -3);
        due("sign of -5 by 8, cut", x.sign(4), 0);
        x.reckon(0, 4, 0, 2);
        due("sign of -5 plus 5", x.sign(4), 0);
        for (int none : NO_REGISTERS) {
            due("sign(" + none + ")", x.sign(none), 2);
        }
    }

    private void bits() {
        begin(11);
        long[] values = {0, 1, -1, 2, -8, 255, (1L << 30) - 1, 1L << 30, 1L << 60, Long.MAX_VALUE, Long.MIN_VALUE};
        int[] lengths = {0, 1, 1, 2, 4, 8, 30, 31, 61, 63, 64};
        for (int i = 0; i < values.length; i++) {
            x.load(3, values[i]);
            due("bits of " + values[i], x.bits(3), lengths[i]);
        }
        put(0, GREATEST.negate());
        due("bits(0)", x.bits(0), 4096);
        for (int none : NO_REGISTERS) {
            due("bits(" + none + ")", x.bits(none), -1);
        }
    }

    private void part() {
        begin(12);
        BigInteger value = BigInteger.valueOf(7).pow(1459);
        put(0, value.negate());
        for (int i = 0; i < 4200; i += 11) {
            int want = value.shiftRight(i).intValue() & 0x3fffffff;
            due("part(0, " + i + ")", x.part(0, i), want);
        }
        begin(12);
        x.load(1, -1);
        due("part(1, 0)", x.part(1, 0), 1);
        x.load(1, Long.MAX_VALUE);
        due("part(1, 0)", x.part(1, 0), (1 << 30) - 1);
        due("part(1, 34)", x.part(1, 34), (1 << 29) - 1);
        due("part(1, 62)", x.part(1, 62), 1);
        due("part(1, 63)", x.part(1, 63), 0);
        due("part(1, 2147483647)", x.part(1, Integer.MAX_VALUE), 0);
        due("part(1, -1)", x.part(1, -1), -1);
        due("part(1, -2147483648)", x.part(1, Integer.MIN_VALUE), -1);
        for (int none : NO_REGISTERS) {
            due("part(" + none + ", 0)", x.part(none, 0), -1);
        }
    }

    private void hasBelow() {
        begin(13);
        for (int bit : new int[] {0, 1, 29, 30, 31, 59, 60, 2000, 4095}) {
            x.load(0, -1);
            x.shift(0, 0, bit);
            due("hasBelow(2^" + bit + ", " + bit + ")", x.hasBelow(0, bit), false);
            due("hasBelow(2^" + bit + ", " + (bit + 1) + ")", x.hasBelow(0, bit + 1), true);
            due("hasBelow(2^" + bit + ", 2147483647)", x.hasBelow(0, Integer.MAX_VALUE), true);
        }
        x.load(0, 3);
        due("hasBelow(3, 0)", x.hasBelow(0, 0), false);
        due("hasBelow(3, -1)", x.hasBelow(0, -1), false);
        due("hasBelow(3, -2147483648)", x.hasBelow(0, Integer.MIN_VALUE), false);
        due("hasBelow(0, 5000)", x.hasBelow(1, 5000), false);
        due("hasBelow(0, 2147483647)", x.hasBelow(1, Integer.MAX_VALUE), false);
        for (int none : NO_REGISTERS) {
            due("hasBelow(" + none + ", 1)", x.hasBelow(none, 1), false);
        }
    }

    private void low() {
        begin(14);
        loads(Long.MAX_VALUE, 1, Long.MIN_VALUE);
        x.reckon(0, 3, 0, 1);
        due("low of 2^63", x.low(3), 0L);
        x.reckon(1, 4, 2, 1);
        due("low of -2^63 - 1", x.low(4), 0L);
        x.reckon(0, 4, 4, 1);
        due("low of -2^63", x.low(4), Long.MIN_VALUE);
        put(4, TWO.pow(62).multiply(BigInteger.valueOf(-3)));
        due("low of -3 * 2^62", x.low(4), 0L);
        x.reckon(1, 3, 3, 1);
        due("low of 2^63 - 1", x.low(3), Long.MAX_VALUE);
        x.shift(5, 1, 4000);
        x.reckon(0, 5, 5, 1);
        due("low of 2^4000 + 1", x.low(5), 0L);
        for (int none : NO_REGISTERS) {
            due("low(" + none + ")", x.low(none), 0L);
        }
    }

    private void fits() {
        begin(15);
        loads(Long.MAX_VALUE, 1, Long.MIN_VALUE);
        for (int a = 0; a < 4; a++) {
            due("fits(" + a + ")", x.fits(a), true);
        }
        x.reckon(0, 3, 0, 1);
        due("fits of 2^63", x.fits(3), false);
        x.reckon(1, 4, 2, 1);
        due("fits of -2^63 - 1", x.fits(4), false);
        x.reckon(0, 4, 4, 1);
        due("fits of -2^63", x.fits(4), true);
        put(4, TWO.pow(62).multiply(BigInteger.valueOf(-3)));
        due("fits of -3 * 2^62", x.fits(4), false);
        x.shift(5, 1, 64);
        due("fits of 2^64", x.fits(5), false);
        x.shift(5, 2, 1);
        due("fits of -2^64", x.fits(5), false);
        for (int none : NO_REGISTERS) {
            due("fits(" + none + ")", x.fits(none), false);
        }
    }

    private void write() {
        BigInteger[] values = {
            BigInteger.ZERO, ONE, BigInteger.valueOf(-255), BigInteger.valueOf(Long.MIN_VALUE), BigInteger.TEN.pow(9),
            BigInteger.TEN.pow(27), TWO.pow(30), TWO.pow(120).negate(), BigInteger.valueOf(-15).pow(61),
            BigInteger.valueOf(14).pow(28).subtract(ONE), BigInteger.valueOf(3).pow(80),
        };
        for (BigInteger value : values) {
            for (int base = 2; base <= 16; base++) {
                begin(16);
                x.type('x');
                put(0, value);
                String want = value.toString(base);
                due("write of " + value + " in base " + base, x.write(0, base), want.length());
                due("that text", text(), want);
            }
        }
        for (int base : new int[] {2, 3, 10, 16}) {
            begin(16);
            put(0, GREATEST.negate());
            String want = GREATEST.negate().toString(base);
            due("write of -greatest in base " + base, x.write(0, base), want.length());
            due("that text", text(), want);
            due("number behind it", get(0), GREATEST.negate());
        }
        begin(16);
        x.load(0, 12);
        x.write(0, 10);
        for (int base : new int[] {1, 17, 0, -2, Integer.MIN_VALUE, Integer.MAX_VALUE}) {
            due("write(0, " + base + ")", x.write(0, base), -1);
        }
        for (int none : NO_REGISTERS) {
            due("write(" + none + ", 10)", x.write(none, 10), -1);
        }
        due("text behind refused calls", text(), "12");
    }

    private void type() {
        begin(17);
        int[] codes = {0, 127, 65, 45, 0};
        for (int i = 0; i < codes.length; i++) {
            due("type(" + codes[i] + ")", x.type(codes[i]), i + 1);
            due("character(" + i + ")", x.character(i), codes[i]);
        }
        for (int code : new int[] {-1, 128, 256 + 65, 65536 + 65, Integer.MIN_VALUE, Integer.MAX_VALUE}) {
            due("type(" + code + ")", x.type(code), -1);
        }
        due("character(5) behind refused calls", x.character(5), -1);

        begin(17);
        x.load(0, 1);
        x.shift(0, 0, 1297);
        due("write(0, 2)", x.write(0, 2), 1298);
        due("the 1299th", x.type('a'), 1299);
        due("the 1300th", x.type('b'), 1300);
        due("the 1301st", x.type('c'), -1);
        due("character(1299)", x.character(1299), (int) 'b');
        due("character(1300)", x.character(1300), -1);
        x.shift(0, 0, 2000);
        due("write(0, 2)", x.write(0, 2), 3298);
        due("type behind 3298", x.type('a'), -1);
        due("character(3298)", x.character(3298), -1);
    }

    private void clear() {
        begin(18);
        x.load(0, 12345);
        x.clear();
        due("character(0)", x.character(0), -1);
        x.write(0, 10);
        x.clear();
        for (int i = 0; i < 6; i++) {
            due("character(" + i + ")", x.character(i), -1);
        }
        due("read(0, 10)", x.read(0, 10), -1);
        due("low(0)", x.low(0), 12345L);
        due("type(55)", x.type('7'), 1);
        due("text", text(), "7");
    }

    private void character() {
        begin(19);
        x.load(0, -907);
        x.write(0, 10);
        due("text", text(), "-907");
        int[][] rows = {
            {0, '-'}, {1, '9'}, {3, '7'}, {4, -1}, {-1, -1}, {Integer.MIN_VALUE, -1}, {Integer.MAX_VALUE, -1},
        };
        for (int[] row : rows) {
            due("character(" + row[0] + ")", x.character(row[0]), row[1]);
        }
        x.load(0, 8);
        x.write(0, 10);
        due("character(1) of a shorter text", x.character(1), -1);
    }

    private void read() {
        begin(20);
        Object[][] rows = {
            {"0", 2, 0L}, {"-0", 10, 0L}, {"-000", 16, 0L}, {"101", 2, 5L}, {"-101", 2, -5L}, {"007", 8, 7L},
            {"fF", 16, 255L}, {"-AbCdEf", 16, -0xabcdefL}, {"b", 12, 11L}, {"B", 12, 11L}, {"-9223372036854775808", 10,
            Long.MIN_VALUE}, {"1000000000", 10, 1000000000L}, {"99999999999", 10, 99999999999L}, {"dD", 14, 195L},
        };
        for (Object[] row : rows) {
            begin(20);
            x.load(1, 77);
            type((String) row[0]);
            long want = (Long) row[2];
            int bits = BigInteger.valueOf(want).abs().bitLength();
            due("read of " + row[0] + " in base " + row[1], x.read(1, (Integer) row[1]), bits);
            due("that number", x.low(1), want);
            due("its sign", x.sign(1), Long.signum(want));
            due("text behind it", text(), row[0]);
        }
        for (int base = 2; base <= 16; base++) {
            begin(20);
            put(0, GREATEST.negate());
            x.write(0, base);
            due("read of -greatest in base " + base, x.read(1, base), 4096);
            due("compare(0, 1)", x.compare(0, 1), 0);
        }
    }

    private void readRefused() {
        String[] wrong = {
            "", "-", "--1", "1-", "+1", " 1", "1 ", "g", "1g", "G", "/", ":", "@", "`", "\0", "1.0", "0x1",
        };
        for (String letters : wrong) {
            begin(20);
            x.load(1, 77);
            type(letters);
            due("read of '" + letters + "' in base 16", x.read(1, 16), -1);
            due("low(1) behind it", x.low(1), 77L);
        }
        String letters = "0123456789abcdef";
        for (int base = 2; base < 16; base++) {
            begin(20);
            type("1" + letters.charAt(base));
            due("read of " + text() + " in base " + base, x.read(1, base), -1);
            type("1" + letters.charAt(base - 1));
            due("read of " + text() + " in base " + base, x.read(1, base) > 0, true);
            due("that number", x.low(1), 2L * base - 1);
        }
        begin(20);
        type("1");
        x.load(1, 77);
        for (int base : new int[] {1, 17, 0, -10, Integer.MIN_VALUE, Integer.MAX_VALUE}) {
            due("read(1, " + base + ")", x.read(1, base), -1);
        }
        for (int none : NO_REGISTERS) {
            due("read(" + none + ", 10)", x.read(none, 10), -1);
        }
        due("low(1) behind refused calls", x.low(1), 77L);
        readTooMuch();
    }

    private void readTooMuch() {
        begin(20);
        put(0, GREATEST);
        x.load(1, 77);
        x.write(0, 16);
        due("read of 1024 digits f", x.read(2, 16), 4096);
        x.type('0');
        due("read of 4100 bits", x.read(1, 16), -1);
        x.write(0, 2);
        due("read of 4096 digits 1 in base 16", x.read(1, 16), -1);
        due("read of 4096 digits 1 in base 3", x.read(1, 3), -1);
        due("read of 4096 digits 1 in base 2", x.read(2, 2), 4096);
        due("low(1) behind refused calls", x.low(1), 77L);

        begin(20);
        put(0, TWO.pow(4095));
        x.load(1, 77);
        x.write(0, 10);
        due("read of 2^4095", x.read(2, 10), 4096);
        due("compare(0, 2)", x.compare(0, 2), 0);
        x.type('0');
        due("read of ten times 2^4095", x.read(1, 10), -1);
        due("low(1) behind it", x.low(1), 77L);
    }
}
