/** The calls that only look at numbers: compare, sign, bits, part, hasBelow, low and fits. */
final class LookSentences extends Sentences {
    LookSentences(Check check, Document document) {
        super(check, document);
    }

    @Override
    void run() {
        compared();
        compareRefused();
        signs();
        signRefused();
        lengths();
        lengthRefused();
        parts();
        partRefused();
        onesBelow();
        nothingBelow();
        longs();
        noLongs();
        lowRefused();
        fitting();
    }

    private void compared() {
        sentence(9, "-1, 0, 1 as register a is less than, as great as, greater than b");
        long[] rising = {Long.MIN_VALUE, -(1L << 30), 1 - (1L << 30), -1, 0, 1, 1L << 30, Long.MAX_VALUE};
        WholeNumbers x = with(rising);
        for (int a = 0; a < 8; a++) {
            for (int b = 0; b < 8; b++) {
                due("compare of " + rising[a] + " and " + rising[b], x.compare(a, b), Integer.compare(a, b));
            }
        }
        WholeNumbers y = busy();
        due("greatest and greatest", y.compare(0, 0), 0);
        due("greatest and -greatest", y.compare(0, 7), 1);
        due("-greatest and greatest", y.compare(7, 0), -1);
        due("-greatest and 0", y.compare(7, 2), -1);
        due("greatest and 2^2048", y.compare(0, 5), 1);
        due("-7 and -1", y.compare(4, 3), -1);
        y.reckon(0, 6, 0, 3);
        due("greatest and greatest - 1", y.compare(0, 6), 1);
        due("greatest - 1 and greatest", y.compare(6, 0), -1);
        y.reckon(0, 6, 7, 1);
        due("-greatest and -greatest + 1", y.compare(7, 6), -1);
        y.reckon(0, 6, 3, 1);
        due("-1 + 1 and 0", y.compare(6, 2), 0);
        due("0 and -1 + 1", y.compare(2, 6), 0);
    }

    private void compareRefused() {
        sentence(9, "2 refused.");
        for (int n : NO_REGISTERS) {
            for (int a : new int[] {0, 2, 7}) {
                unchanged("compare(" + n + ", " + a + ")", 2, x -> x.compare(n, a));
                unchanged("compare(" + a + ", " + n + ")", 2, x -> x.compare(a, n));
            }
        }
    }

    private void signs() {
        sentence(10, "-1, 0, 1 by the sign of register a");
        WholeNumbers x = busy();
        int[] want = {1, 1, 0, -1, -1, 1, 1, -1};
        for (int a = 0; a < 8; a++) {
            due("sign(" + a + ")", x.sign(a), want[a]);
        }
        WholeNumbers y = with(-5, 0, 5, Long.MIN_VALUE);
        y.reckon(2, 4, 0, 1);
        due("sign of -5 times 0", y.sign(4), 0);
        y.reckon(0, 4, 0, 2);
        due("sign of -5 plus 5", y.sign(4), 0);
        y.shift(4, 0, -3);
        due("sign of -5 by 8", y.sign(4), 0);
        y.divide(4, 5, 0, 3, false);
        due("sign of -5 by the least long", y.sign(4), 0);
        y.divide(5, 4, 0, 0, false);
        due("sign of the rest of -5 by -5", y.sign(4), 0);
        due("sign of the least long", y.sign(3), -1);
        Hand.type(y, "-0");
        y.read(4, 10);
        due("sign of the text -0", y.sign(4), 0);
    }

    private void signRefused() {
        sentence(10, "2 refused.");
        for (int n : NO_REGISTERS) {
            unchanged("sign(" + n + ")", 2, x -> x.sign(n));
        }
    }

    private void lengths() {
        sentence(11, "The bits of register a");
        WholeNumbers x = busy();
        int[] want = {4096, 1, 0, 1, 3, 2049, 7, 4096};
        for (int a = 0; a < 8; a++) {
            due("bits(" + a + ")", x.bits(a), want[a]);
        }
        due("bits of the least long", with(Long.MIN_VALUE).bits(0), 64);
        due("bits of the greatest long", with(Long.MAX_VALUE).bits(0), 63);
    }

    private void lengthRefused() {
        sentence(11, "-1 refused.");
        for (int n : NO_REGISTERS) {
            unchanged("bits(" + n + ")", -1, x -> x.bits(n));
        }
    }

    private void parts() {
        sentence(12, "Bits i to i + 29 of the absolute value of register a, i the lowest of them");
        int full = (1 << 30) - 1;
        WholeNumbers x = busy();
        int[][] rows = {
            {0, full}, {1, full}, {29, full}, {30, full}, {4065, full}, {4066, full}, {4067, full >> 1}, {4094, 3},
            {4095, 1}, {4096, 0}, {4097, 0}, {4110, 0}, {5000, 0}, {Integer.MAX_VALUE - 29, 0}, {Integer.MAX_VALUE, 0},
        };
        for (int[] row : rows) {
            due("part of greatest from " + row[0], x.part(0, row[0]), row[1]);
            due("part of -greatest from " + row[0], x.part(7, row[0]), row[1]);
            due("part of 0 from " + row[0], x.part(2, row[0]), 0);
        }
        due("part of -1 from 0", x.part(3, 0), 1);
        due("part of -7 from 0", x.part(4, 0), 7);
        due("part of -7 from 1", x.part(4, 1), 3);
        due("part of -7 from 3", x.part(4, 3), 0);
        for (int i : new int[] {0, 1, 2, 15, 28, 29}) {
            due("part of 2^2048 from " + (2048 - i), x.part(5, 2048 - i), 1 << i);
        }
        due("part of 2^2048 from 2018", x.part(5, 2018), 0);
        due("part of 2^2048 from 2049", x.part(5, 2049), 0);
        due("part of the least long from 34", with(Long.MIN_VALUE).part(0, 34), 1 << 29);
    }

    private void partRefused() {
        sentence(12, "-1 refused, also if i is below 0.");
        for (int i : new int[] {-1, -29, -30, -31, Integer.MIN_VALUE}) {
            unchanged("part(0, " + i + ")", -1, x -> x.part(0, i));
            unchanged("part(2, " + i + ")", -1, x -> x.part(2, i));
        }
        for (int n : NO_REGISTERS) {
            unchanged("part(" + n + ", 0)", -1, x -> x.part(n, 0));
            unchanged("part(" + n + ", -1)", -1, x -> x.part(n, -1));
        }
    }

    private void onesBelow() {
        sentence(13, "Whether one of the lowest n bits of the absolute value of register a is 1");
        for (int i : new int[] {0, 1, 28, 29, 30, 31, 59, 60, 61, 2048, 4079, 4080, 4094, 4095}) {
            WholeNumbers x = with(1, -1);
            x.shift(0, 0, i);
            x.shift(1, 1, i);
            for (int a = 0; a < 2; a++) {
                String name = (a == 0 ? "2^" : "-2^") + i;
                due("the lowest " + i + " of " + name, x.hasBelow(a, i), false);
                due("the lowest " + (i + 1) + " of " + name, x.hasBelow(a, i + 1), true);
                due("the lowest 4096 of " + name, x.hasBelow(a, 4096), true);
                due("the lowest 4097 of " + name, x.hasBelow(a, 4097), true);
                due("the lowest 2147483647 of " + name, x.hasBelow(a, Integer.MAX_VALUE), true);
            }
        }
        WholeNumbers y = busy();
        for (int n : new int[] {1, 30, 4096, 4097, Integer.MAX_VALUE}) {
            due("the lowest " + n + " of 0", y.hasBelow(2, n), false);
            due("the lowest " + n + " of -7", y.hasBelow(4, n), true);
        }
    }

    private void nothingBelow() {
        sentence(13, "false if it is refused or n is below 1.");
        for (int n : new int[] {0, -1, -29, -30, -31, -4096, Integer.MIN_VALUE}) {
            unchanged("hasBelow(0, " + n + ")", false, x -> x.hasBelow(0, n));
            unchanged("hasBelow(4, " + n + ")", false, x -> x.hasBelow(4, n));
        }
        for (int n : NO_REGISTERS) {
            unchanged("hasBelow(" + n + ", 1)", false, x -> x.hasBelow(n, 1));
            unchanged("hasBelow(" + n + ", 0)", false, x -> x.hasBelow(n, 0));
        }
    }

    private void longs() {
        sentence(14, "Register a as a long");
        long[] values = {0, 1, -1, (1L << 30) - 1, -(1L << 30), 1L << 60, -(1L << 60), Long.MAX_VALUE, -Long.MAX_VALUE,
            Long.MIN_VALUE, Long.MIN_VALUE + 1};
        for (long v : values) {
            due("low of " + v, with(v).low(0), v);
        }
        WholeNumbers x = with(1, -1);
        x.shift(2, 0, 63);
        x.shift(3, 1, 63);
        due("low of -1 times 2^63", x.low(3), Long.MIN_VALUE);
        x.reckon(1, 2, 2, 0);
        due("low of 2^63 - 1", x.low(2), Long.MAX_VALUE);
    }

    /** Registers 2 to 7: 2^63, -2^63 - 1, 2^64, -2^63 - 2^62, 2^64 + 5 and -2^4095. */
    private static WholeNumbers beyondLong() {
        WholeNumbers x = with(1, -1);
        x.shift(2, 0, 63);
        x.shift(3, 1, 63);
        x.reckon(1, 3, 3, 0);
        x.shift(4, 0, 64);
        x.load(5, -3);
        x.shift(5, 5, 62);
        x.load(7, 5);
        x.reckon(0, 6, 4, 7);
        x.shift(7, 1, 4095);
        return x;
    }

    private void noLongs() {
        sentence(14, "0 if it is none");
        WholeNumbers x = beyondLong();
        for (int a = 2; a < 8; a++) {
            due("low(" + a + ")", x.low(a), 0L);
        }
        due("low of greatest", busy().low(0), 0L);
        due("low of -greatest", busy().low(7), 0L);
    }

    private void lowRefused() {
        sentence(14, "or refused.");
        for (int n : NO_REGISTERS) {
            unchanged("low(" + n + ")", 0L, x -> x.low(n));
        }
    }

    private void fitting() {
        sentence(15, "Whether register a is a long.");
        for (long v : new long[] {0, 1, -1, Long.MAX_VALUE, Long.MIN_VALUE, Long.MIN_VALUE + 1}) {
            due("fits of " + v, with(v).fits(0), true);
        }
        WholeNumbers x = beyondLong();
        for (int a = 2; a < 8; a++) {
            due("fits(" + a + ")", x.fits(a), false);
        }
        x.reckon(1, 2, 2, 0);
        due("fits of 2^63 less 1", x.fits(2), true);
        x.reckon(0, 3, 3, 0);
        due("fits of -2^63 - 1 plus 1", x.fits(3), true);
        due("fits of greatest", busy().fits(0), false);
        due("fits of -greatest", busy().fits(7), false);
        for (int n : NO_REGISTERS) {
            unchanged("fits(" + n + ")", false, y -> y.fits(n));
        }
    }
}
