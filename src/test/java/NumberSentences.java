import java.math.BigInteger;

/** The calls that make numbers of numbers: load, reckon, divide, gcd, root, shift and power. */
final class NumberSentences extends Sentences {
    private static final int[] NO_OPS = {-1, 3, 4, -2, 256, Integer.MIN_VALUE, Integer.MAX_VALUE};

    NumberSentences(Check check, Document document) {
        super(check, document);
    }

    @Override
    void run() {
        loaded();
        loadRefused();
        reckoned();
        noSuchOp();
        quotients();
        rests();
        bitsOfTheQuotient();
        quotientAndRestInOne();
        divisorZero();
        commonDivisors();
        commonDivisorNotNegative();
        commonDivisorOfZeros();
        commonDivisorRefused();
        roots();
        rootRefused();
        rootBelowZero();
        shiftedUp();
        shiftedDown();
        noSuchShift();
        powers();
        powerZero();
        noSuchPower();
    }

    private void loaded() {
        sentence(2, "Register t becomes v: true");
        long[] values = {0, 1, -1, (1L << 30) - 1, 1L << 30, -(1L << 30), (1L << 60) - 1, 1L << 60, -(1L << 60),
            Long.MAX_VALUE, -Long.MAX_VALUE, Long.MIN_VALUE};
        WholeNumbers x = new WholeNumbers();
        for (long v : values) {
            for (int t : new int[] {0, 7}) {
                due("load(" + t + ", " + v + ")", x.load(t, v), true);
                due("the number of load(" + t + ", " + v + ")", Hand.get(x, t), BigInteger.valueOf(v));
                due("low behind load(" + t + ", " + v + ")", x.low(t), v);
            }
        }
        WholeNumbers y = busy();
        due("load over 4096 bits", y.load(0, -5), true);
        due("that number", Hand.get(y, 0), BigInteger.valueOf(-5));
    }

    private void loadRefused() {
        sentence(2, "false if it is refused.");
        for (int n : NO_REGISTERS) {
            unchanged("load(" + n + ", 9)", false, x -> x.load(n, 9));
            unchanged("load(" + n + ", 0)", false, x -> x.load(n, 0));
        }
    }

    private void reckoned() {
        sentence(3, "Register t becomes a plus b (op 0), a minus b (1), a times b (2),"
                + " where a and b are numbers of registers: its bits");
        long[][] rows = {
            // a, b, a + b, a - b, a * b
            {5, 3, 8, 2, 15}, {3, 5, 8, -2, 15}, {-5, 3, -2, -8, -15}, {-3, -5, -8, 2, 15}, {5, -5, 0, 10, -25},
            {5, 5, 10, 0, 25}, {0, 0, 0, 0, 0}, {0, -4, -4, 4, 0}, {-4, 0, -4, -4, 0},
            {1 << 29, 1 << 29, 1 << 30, 0, 1L << 58}, {(1 << 30) - 1, 1, 1 << 30, (1 << 30) - 2, (1 << 30) - 1},
        };
        for (long[] row : rows) {
            for (int op = 0; op < 3; op++) {
                int o = op;
                String name = "op " + op + " of " + row[0] + " and " + row[1];
                becomes(name, row[2 + op], 2, with(0, 0, 0, row[0], row[1]), x -> x.reckon(o, 2, 3, 4));
                becomes(name + " over a", row[2 + op], 3, with(0, 0, 0, row[0], row[1]), x -> x.reckon(o, 3, 3, 4));
                becomes(name + " over b", row[2 + op], 4, with(0, 0, 0, row[0], row[1]), x -> x.reckon(o, 4, 3, 4));
            }
        }
        BigInteger least = BigInteger.valueOf(Long.MIN_VALUE);
        WholeNumbers x = with(Long.MIN_VALUE, Long.MAX_VALUE);
        becomes("the least long twice", least.shiftLeft(1), 2, x, y -> y.reckon(0, 2, 0, 0));
        becomes("the least long less the greatest", ONE.subtract(TWO.pow(64)), 2, x, y -> y.reckon(1, 2, 0, 1));
        becomes("the square of the least long", TWO.pow(126), 2, x, y -> y.reckon(2, 2, 0, 0));
        becomes("a number less itself", 0, 0, x, y -> y.reckon(1, 0, 0, 0));
        due("its sign", x.sign(0), 0);
    }

    private void noSuchOp() {
        sentence(3, "-1 refused, also for another op.");
        for (int op : NO_OPS) {
            unchanged("reckon(" + op + ", 6, 4, 1)", -1, x -> x.reckon(op, 6, 4, 1));
            unchanged("reckon(" + op + ", 2, 2, 2)", -1, x -> x.reckon(op, 2, 2, 2));
        }
        unchanged("reckon(0, 8, 4, 1)", -1, x -> x.reckon(0, 8, 4, 1));
        unchanged("reckon(2, 2, 0, 0)", -1, x -> x.reckon(2, 2, 0, 0));
    }

    // a, b, the quotient cut towards 0 and its rest, the quotient downwards and its rest
    private static final long[][] DIVISIONS = {
        {7, 2, 3, 1, 3, 1}, {-7, 2, -3, -1, -4, 1}, {7, -2, -3, 1, -4, -1}, {-7, -2, 3, -1, 3, -1},
        {6, 2, 3, 0, 3, 0}, {-6, 2, -3, 0, -3, 0}, {6, -2, -3, 0, -3, 0}, {-6, -2, 3, 0, 3, 0},
        {1, 3, 0, 1, 0, 1}, {-1, 3, 0, -1, -1, 2}, {1, -3, 0, 1, -1, -2}, {-1, -3, 0, -1, 0, -1},
        {0, 3, 0, 0, 0, 0}, {0, -3, 0, 0, 0, 0}, {3, 3, 1, 0, 1, 0}, {-3, 3, -1, 0, -1, 0},
        {Long.MIN_VALUE, 1, Long.MIN_VALUE, 0, Long.MIN_VALUE, 0},
        {Long.MAX_VALUE, -1, -Long.MAX_VALUE, 0, -Long.MAX_VALUE, 0},
        {Long.MIN_VALUE, Long.MIN_VALUE, 1, 0, 1, 0}, {Long.MAX_VALUE, Long.MIN_VALUE, 0, Long.MAX_VALUE, -1, -1},
        {Long.MIN_VALUE, Long.MAX_VALUE, -1, -1, -2, Long.MAX_VALUE - 1},
    };

    private void quotients() {
        sentence(4, "Register q becomes the quotient of the registers a and b, cut towards 0, or, if floor, downwards");
        for (long[] row : DIVISIONS) {
            String name = row[0] + " by " + row[1];
            becomes(name + ", cut", row[2], 2, with(row[0], row[1]), x -> x.divide(2, 3, 0, 1, false));
            becomes(name + ", downwards", row[4], 2, with(row[0], row[1]), x -> x.divide(2, 3, 0, 1, true));
        }
        WholeNumbers x = with(Long.MIN_VALUE, -1);
        becomes("the least long by -1", TWO.pow(63), 2, x, y -> y.divide(2, 3, 0, 1, true));
        becomes("-greatest by 1, downwards", GREATEST.negate(), 2, busy(), y -> y.divide(2, 3, 7, 1, true));
        becomes("-greatest by -1", GREATEST, 2, busy(), y -> y.divide(2, 3, 7, 3, true));
        becomes("greatest by -greatest", -1, 2, busy(), y -> y.divide(2, 3, 0, 7, true));
        becomes("1 by -greatest, cut", 0, 2, busy(), y -> y.divide(2, 3, 1, 7, false));
        becomes("1 by -greatest, downwards", -1, 2, busy(), y -> y.divide(2, 3, 1, 7, true));
    }

    private void rests() {
        sentence(4, "then register r the rest, a less b times the quotient");
        for (long[] row : DIVISIONS) {
            dueRest(row[0] + " by " + row[1] + ", cut", row[3], with(row[0], row[1]), false);
            dueRest(row[0] + " by " + row[1] + ", downwards", row[5], with(row[0], row[1]), true);
        }
        WholeNumbers x = busy();
        x.divide(2, 3, 1, 7, true);
        due("rest of 1 by -greatest, downwards", Hand.get(x, 3), GREATEST.negate().add(ONE));
        WholeNumbers y = busy();
        y.divide(2, 3, 1, 7, false);
        due("rest of 1 by -greatest, cut", Hand.get(y, 3), ONE);
        // a and b are the numbers that the registers have before the call.
        int[][] places = {{0, 1}, {1, 0}, {0, 2}, {2, 0}, {1, 2}, {2, 1}};
        for (int[] p : places) {
            WholeNumbers z = with(-100, 7);
            z.divide(p[0], p[1], 0, 1, true);
            due("quotient of divide(" + p[0] + ", " + p[1] + ", 0, 1, true)", z.low(p[0]), -15L);
            due("rest of divide(" + p[0] + ", " + p[1] + ", 0, 1, true)", z.low(p[1]), 5L);
        }
    }

    private void dueRest(String name, long rest, WholeNumbers x, boolean floor) {
        x.load(3, 77);
        x.divide(2, 3, 0, 1, floor);
        due("rest of " + name, Hand.get(x, 3), BigInteger.valueOf(rest));
        due("sign of the rest of " + name, x.sign(3), Long.signum(rest));
    }

    private void bitsOfTheQuotient() {
        sentence(4, "the bits of the quotient");
        due("255 by 256", with(255, 256).divide(2, 3, 0, 1, false), 0);
        due("-255 by 256, downwards", with(-255, 256).divide(2, 3, 0, 1, true), 1);
        due("-15 by 2, cut", with(-15, 2).divide(2, 3, 0, 1, false), 3);
        due("-15 by 2, downwards", with(-15, 2).divide(2, 3, 0, 1, true), 4);
        due("greatest by 1", busy().divide(2, 3, 0, 1, false), 4096);
        due("the quotient over a, 77 by -7", busy().divide(6, 4, 6, 4, false), 4);
    }

    private void quotientAndRestInOne() {
        sentence(4, "-1 refused (or q and r the same register).");
        for (int t = 0; t < 8; t++) {
            int q = t;
            unchanged("divide(" + q + ", " + q + ", 0, 6, false)", -1, x -> x.divide(q, q, 0, 6, false));
            unchanged("divide(" + q + ", " + q + ", 0, 6, true)", -1, x -> x.divide(q, q, 0, 6, true));
        }
        unchanged("divide(4, 4, 0, 2, true)", -1, x -> x.divide(4, 4, 0, 2, true));
        unchanged("divide(8, 4, 0, 2, true)", -1, x -> x.divide(8, 4, 0, 2, true));
        unchanged("divide(4, 5, 0, -1, true)", -1, x -> x.divide(4, 5, 0, -1, true));
        due("a and b may be the same register", busy().divide(2, 3, 0, 0, true), 1);
    }

    private void divisorZero() {
        sentence(4, "ArithmeticException if b is 0.");
        String thrown = "throws.ArithmeticException";
        for (boolean floor : new boolean[] {false, true}) {
            unchanged("77 by 0, " + floor, thrown, x -> x.divide(4, 5, 6, 2, floor));
            unchanged("greatest by 0, " + floor, thrown, x -> x.divide(4, 5, 0, 2, floor));
            unchanged("-greatest by 0, " + floor, thrown, x -> x.divide(4, 5, 7, 2, floor));
            unchanged("0 by 0, " + floor, thrown, x -> x.divide(4, 5, 2, 2, floor));
            unchanged("77 by 0 over both, " + floor, thrown, x -> x.divide(6, 2, 6, 2, floor));
        }
    }

    private void commonDivisors() {
        sentence(5, "Register t becomes the greatest common divisor of the registers a and b");
        long[][] rows = {
            {12, 18, 6}, {18, 12, 6}, {1, 1, 1}, {1, 77, 1}, {35, 64, 1}, {5, 5, 5}, {5, 25, 5}, {25, 5, 5},
            {1L << 30, 1L << 60, 1L << 30}, {(1L << 60) - 1, (1L << 30) - 1, (1L << 30) - 1},
        };
        for (long[] row : rows) {
            String name = "gcd of " + row[0] + " and " + row[1];
            becomes(name, row[2], 2, with(row[0], row[1]), x -> x.gcd(2, 0, 1));
            becomes(name + " over a", row[2], 0, with(row[0], row[1]), x -> x.gcd(0, 0, 1));
            becomes(name + " over b", row[2], 1, with(row[0], row[1]), x -> x.gcd(1, 0, 1));
        }
        becomes("gcd of greatest and 77", GREATEST.gcd(BigInteger.valueOf(77)), 2, busy(), x -> x.gcd(2, 0, 6));
        becomes("gcd of greatest and 2^2048", 1, 2, busy(), x -> x.gcd(2, 0, 5));
        becomes("gcd of greatest and itself", GREATEST, 2, busy(), x -> x.gcd(2, 0, 0));
    }

    private void commonDivisorNotNegative() {
        sentence(5, "not negative");
        becomes("gcd of -12 and 18", 6, 2, with(-12, 18), x -> x.gcd(2, 0, 1));
        becomes("gcd of 12 and -18", 6, 2, with(12, -18), x -> x.gcd(2, 0, 1));
        becomes("gcd of -12 and -18", 6, 2, with(-12, -18), x -> x.gcd(2, 0, 1));
        becomes("gcd of -12 and itself", 12, 0, with(-12), x -> x.gcd(0, 0, 0));
        becomes("gcd of the least long and itself", TWO.pow(63), 1, with(Long.MIN_VALUE), x -> x.gcd(1, 0, 0));
        becomes("gcd of greatest and -greatest", GREATEST, 2, busy(), x -> x.gcd(2, 0, 7));
        WholeNumbers y = with(-12, 18);
        y.reckon(0, 3, 0, 0);
        becomes("gcd of -12 and 18 behind a sum below 0", 6, 2, y, x -> x.gcd(2, 0, 1));
        due("-12 behind it", y.low(0), -12L);
    }

    private void commonDivisorOfZeros() {
        sentence(5, "0 of two zeros: its bits");
        becomes("gcd of 0 and 0", 0, 2, with(0, 0, 77), x -> x.gcd(2, 0, 1));
        becomes("gcd of 0 and itself", 0, 0, with(0), x -> x.gcd(0, 0, 0));
        becomes("gcd of 0 and 77", 77, 2, with(0, 77), x -> x.gcd(2, 0, 1));
        becomes("gcd of -77 and 0", 77, 2, with(-77, 0), x -> x.gcd(2, 0, 1));
        becomes("gcd of 0 and -greatest", GREATEST, 2, busy(), x -> x.gcd(2, 2, 7));
    }

    private void commonDivisorRefused() {
        sentence(5, "-1 refused.");
        for (int n : NO_REGISTERS) {
            unchanged("gcd(" + n + ", 0, 1)", -1, x -> x.gcd(n, 0, 1));
            unchanged("gcd(2, " + n + ", 2)", -1, x -> x.gcd(2, n, 2));
            unchanged("gcd(2, 2, " + n + ")", -1, x -> x.gcd(2, 2, n));
        }
    }

    private void roots() {
        sentence(6, "Register t becomes the greatest whole number whose square is not above register a: its bits");
        becomes("root of 0", 0, 1, with(0, 77), x -> x.root(1, 0));
        for (long k : new long[] {1, 2, 3, 10, 255, 1 << 15, (1 << 15) + 1, (1 << 30) - 1, 1 << 30, 3037000499L}) {
            becomes("root of " + k * k, k, 1, with(k * k, 77), x -> x.root(1, 0));
            becomes("root of " + (k * k - 1), k - 1, 1, with(k * k - 1, 77), x -> x.root(1, 0));
            becomes("root of " + (k * k + 1), k, 1, with(k * k + 1, 77), x -> x.root(1, 0));
        }
        becomes("root of the greatest long", 3037000499L, 0, with(Long.MAX_VALUE), x -> x.root(0, 0));
        BigInteger greatestRoot = TWO.pow(2048).subtract(ONE);
        WholeNumbers behind = with(-5, 9);
        behind.reckon(0, 2, 0, 0);
        becomes("root of 9 behind a sum below 0", 3, 2, behind, x -> x.root(2, 1));
        becomes("root of greatest", greatestRoot, 2, busy(), x -> x.root(2, 0));
        becomes("root of 2^2048", TWO.pow(1024), 2, busy(), x -> x.root(2, 5));
        for (int step = -1; step <= 0; step++) {
            BigInteger square = greatestRoot.pow(2).add(BigInteger.valueOf(step));
            WholeNumbers x = new WholeNumbers();
            Hand.put(x, 0, square);
            BigInteger root = greatestRoot.add(BigInteger.valueOf(step));
            becomes("root of (2^2048 - 1)^2 + " + step, root, 1, x, y -> y.root(1, 0));
        }
    }

    private void rootRefused() {
        sentence(6, "-1 refused.");
        for (int n : NO_REGISTERS) {
            unchanged("root(" + n + ", 0)", -1, x -> x.root(n, 0));
            unchanged("root(" + n + ", 4)", -1, x -> x.root(n, 4));
            unchanged("root(2, " + n + ")", -1, x -> x.root(2, n));
        }
    }

    private void rootBelowZero() {
        sentence(6, "IllegalArgumentException if that is below 0.");
        String thrown = "throws.IllegalArgumentException";
        unchanged("root of -1", thrown, x -> x.root(6, 3));
        unchanged("root of -7", thrown, x -> x.root(6, 4));
        unchanged("root of -greatest", thrown, x -> x.root(6, 7));
        unchanged("root of -1 over itself", thrown, x -> x.root(3, 3));
        unchanged("root of the least long", thrown, () -> with(77, Long.MIN_VALUE), x -> x.root(0, 1));
        becomes("root of 0 is no such one", 0, 6, busy(), x -> x.root(6, 2));
        WholeNumbers zero = with(-5, 5);
        zero.reckon(0, 0, 0, 1);
        becomes("root of -5 plus 5", 0, 1, zero, x -> x.root(1, 0));
    }

    private void shiftedUp() {
        sentence(7, "Register t becomes register a times 2^n (n from 1 to 4096)");
        for (int n : new int[] {1, 2, 29, 30, 31, 59, 60, 61, 4064, 4093, 4094}) {
            becomes("3 times 2^" + n, TWO.pow(n).multiply(BigInteger.valueOf(3)), 1, with(3), x -> x.shift(1, 0, n));
            becomes("-3 times 2^" + n, TWO.pow(n).multiply(BigInteger.valueOf(-3)), 0, with(-3), x -> x.shift(0, 0, n));
        }
        becomes("1 times 2^4095", TWO.pow(4095), 1, with(1), x -> x.shift(1, 0, 4095));
        becomes("0 times 2^1", 0, 1, with(0, 77), x -> x.shift(1, 0, 1));
        becomes("0 times 2^4095", 0, 1, with(0, 77), x -> x.shift(1, 0, 4095));
        becomes("0 times 2^4096", 0, 1, with(0, 77), x -> x.shift(1, 0, 4096));
        unchanged("1 times 2^4096", -1, x -> x.shift(6, 1, 4096));
        unchanged("-7 times 2^4094", -1, x -> x.shift(6, 4, 4094));
        unchanged("2^2048 times 2^2048", -1, x -> x.shift(6, 5, 2048));
        unchanged("2^2048 times 2^4096", -1, x -> x.shift(6, 5, 4096));
        unchanged("-greatest times 2^4096", -1, x -> x.shift(6, 7, 4096));
    }

    private void shiftedDown() {
        sentence(7, "or by 2^-n, cut towards 0 (n from -4096 to 0): its bits");
        long[][] rows = {
            {5, 0, 5}, {-5, 0, -5}, {0, 0, 0}, {5, -1, 2}, {-5, -1, -2}, {7, -2, 1}, {-7, -2, -1},
            {7, -3, 0}, {-7, -3, 0}, {-8, -3, -1}, {1, -1, 0}, {-1, -1, 0}, {-1, -4096, 0},
            {Long.MAX_VALUE, -62, 1}, {Long.MAX_VALUE, -63, 0},
            {Long.MIN_VALUE, -63, -1}, {Long.MIN_VALUE, -64, 0}, {1L << 60, -30, 1 << 30}, {-(1L << 60), -60, -1},
        };
        for (long[] row : rows) {
            String name = row[0] + " by 2^" + -row[1];
            becomes(name, row[2], 1, with(row[0], 77), x -> x.shift(1, 0, (int) row[1]));
            WholeNumbers y = with(row[0]);
            becomes(name + " over a", row[2], 0, y, x -> x.shift(0, 0, (int) row[1]));
            due("sign of " + name, y.sign(0), Long.signum(row[2]));
        }
        becomes("greatest by 2^0", GREATEST, 2, busy(), x -> x.shift(2, 0, 0));
        becomes("-greatest by 2^1", TWO.pow(4095).subtract(ONE).negate(), 2, busy(), x -> x.shift(2, 7, -1));
        becomes("-greatest by 2^4095", -1, 2, busy(), x -> x.shift(2, 7, -4095));
        becomes("-greatest by 2^4096", 0, 2, busy(), x -> x.shift(2, 7, -4096));
        becomes("greatest by 2^4095", 1, 2, busy(), x -> x.shift(2, 0, -4095));
        becomes("greatest by 2^4096", 0, 2, busy(), x -> x.shift(2, 0, -4096));
    }

    private void noSuchShift() {
        sentence(7, "-1 refused, also for another n.");
        for (int n : new int[] {4097, -4097, 5000, -5000, 65536, -65536, Integer.MAX_VALUE, Integer.MIN_VALUE}) {
            unchanged("shift(6, 1, " + n + ")", -1, x -> x.shift(6, 1, n));
            unchanged("shift(6, 2, " + n + ")", -1, x -> x.shift(6, 2, n));
            unchanged("shift(0, 0, " + n + ")", -1, x -> x.shift(0, 0, n));
        }
        unchanged("shift(8, 1, 1)", -1, x -> x.shift(8, 1, 1));
        unchanged("shift(1, -1, -1)", -1, x -> x.shift(1, -1, -1));
    }

    private void powers() {
        sentence(8, "Register t becomes register a to the n");
        long[][] rows = {
            {2, 1, 2}, {-2, 1, -2}, {-2, 2, 4}, {-2, 3, -8}, {3, 4, 81}, {10, 18, 1000000000000000000L}, {0, 1, 0},
            {0, 4096, 0}, {1, 4096, 1}, {-1, 4095, -1}, {-1, 4096, 1}, {-2, 63, Long.MIN_VALUE}, {77, 1, 77},
            {Long.MIN_VALUE, 1, Long.MIN_VALUE},
        };
        for (long[] row : rows) {
            String name = row[0] + " to the " + row[1];
            becomes(name, row[2], 1, with(row[0], 77), x -> x.power(1, 0, (int) row[1]));
            becomes(name + " over a", row[2], 0, with(row[0]), x -> x.power(0, 0, (int) row[1]));
        }
        becomes("2 to the 4095", TWO.pow(4095), 1, with(2), x -> x.power(1, 0, 4095));
        becomes("-2 to the 4095", TWO.pow(4095).negate(), 1, with(-2), x -> x.power(1, 0, 4095));
        becomes("3 to the 2584", BigInteger.valueOf(3).pow(2584), 1, with(3), x -> x.power(1, 0, 2584));
        unchanged("2 to the 4096", -1, () -> with(2, 77), x -> x.power(1, 0, 4096));
        unchanged("3 to the 2585", -1, () -> with(3, 77), x -> x.power(1, 0, 2585));
    }

    private void powerZero() {
        sentence(8, "1 for n = 0: its bits");
        for (int a = 0; a < 8; a++) {
            int from = a;
            becomes("register " + a + " to the 0", 1, 6, busy(), x -> x.power(6, from, 0));
        }
        becomes("0 to the 0 over itself", 1, 2, busy(), x -> x.power(2, 2, 0));
    }

    private void noSuchPower() {
        sentence(8, "-1 refused, also if n is not 0 .. 4096.");
        for (int n : new int[] {-1, 4097, -4096, 8191, 8192, 8193, 65536, Integer.MIN_VALUE, Integer.MAX_VALUE}) {
            unchanged("1 to the " + n, -1, x -> x.power(6, 1, n));
            unchanged("0 to the " + n, -1, x -> x.power(6, 2, n));
            unchanged("-1 to the " + n, -1, x -> x.power(6, 3, n));
        }
        unchanged("power(8, 1, 1)", -1, x -> x.power(8, 1, 1));
        unchanged("power(1, -1, 0)", -1, x -> x.power(1, -1, 0));
    }
}
