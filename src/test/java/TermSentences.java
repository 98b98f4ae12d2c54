import java.math.BigInteger;

/** The document's first words, its terms, and the new object. */
final class TermSentences extends Sentences {
    private static final int TERMS = Document.TERMS;

    TermSentences(Check check, Document document) {
        super(check, document);
    }

    @Override
    void run() {
        thousandsOfBits();
        fiveHundredTwelveCalls();
        eightRegisters();
        bitsOfANumber();
        textOfCharacters();
        noSuchRegisterForNumbers();
        noSuchRegisterForLooks();
        moreBitsThanThereAre();
        asManyBitsAsThereAre();
        productsAtTheLimit();
        textsAtTheLimit();
        refusedChangesNothing();
        refusedLeavesNoTrace();
        newRegisters();
        newText();
    }

    private void thousandsOfBits() {
        sentence(TERMS, "Whole numbers of thousands of bits in eight registers,"
                + " with what one reckons with them, and their texts.");
        WholeNumbers x = new WholeNumbers();
        for (int t = 0; t < 8; t++) {
            x.load(t, t + 1);
            x.power(t, t, 1300);
        }
        int[] lengths = {1, 1301, 2061, 2601, 3019, 3361, 3650, 3901};
        for (int a = 0; a < 8; a++) {
            due("bits of " + (a + 1) + "^1300", x.bits(a), lengths[a]);
        }
        for (int a = 0; a < 2; a++) {
            due(a + 7 + "^1300", Hand.get(x, a + 6), BigInteger.valueOf(a + 7).pow(1300));
        }
        due("digits of 8^1300", x.write(7, 10), 1175);
    }

    private void fiveHundredTwelveCalls() {
        sentence(TERMS, "An object is used for at most 512 calls after it has been made;"
                + " what later calls answer is free.");
        WholeNumbers x = with(1, -1);
        for (int call = 3; call < 511; call++) {
            due("call " + call, x.reckon(call % 2, 0, 0, 1), call % 2 == 1 ? 2 : 1);
        }
        due("call 511", x.type('0'), 1);
        due("call 512", x.low(0), 1L);

        WholeNumbers y = new WholeNumbers();
        for (int call = 1; call <= 512; call++) {
            due("type as call " + call, y.type('0'), call);
        }
    }

    private void eightRegisters() {
        sentence(TERMS, "REGISTERS 0 .. 7 have whole numbers, 0 at first.");
        for (int t = 0; t < 8; t++) {
            WholeNumbers x = new WholeNumbers();
            due("low(" + t + ") at first", x.low(t), 0L);
            due("load(" + t + ", 5)", x.load(t, 5), true);
            for (int a = 0; a < 8; a++) {
                due("low(" + a + ") behind load(" + t + ", 5)", x.low(a), a == t ? 5L : 0L);
            }
        }
    }

    private void bitsOfANumber() {
        sentence(TERMS, "The BITS of a number are those of its absolute value without leading zeros (0 has none).");
        WholeNumbers x = new WholeNumbers();
        due("bits of 0", x.bits(0), 0);
        for (int n : new int[] {0, 1, 29, 30, 31, 59, 60, 61, 62, 63, 64, 2047, 2048, 4094, 4095}) {
            x.load(1, 1);
            due("bits of 2^" + n, x.shift(2, 1, n), n + 1);
            x.load(1, -1);
            due("bits of -2^" + n, x.shift(3, 1, n), n + 1);
            x.reckon(0, 2, 2, 1);
            due("bits of 2^" + n + " - 1", x.bits(2), n);
            x.reckon(1, 3, 3, 1);
            due("bits of 1 - 2^" + n, x.bits(3), n);
        }
    }

    private void textOfCharacters() {
        sentence(TERMS, "There is a TEXT of characters.");
        WholeNumbers x = new WholeNumbers();
        x.type('a');
        x.type('b');
        due("the text", Hand.text(x), "ab");
        x.load(0, 12);
        due("the text is no register's", Hand.text(x), "ab");
    }

    private void noSuchRegisterForNumbers() {
        sentence(TERMS, "A call with a register that is not 0 .. 7 is REFUSED");
        for (int n : NO_REGISTERS) {
            unchanged("load(" + n + ", 5)", false, x -> x.load(n, 5));
            for (int op = 0; op < 3; op++) {
                int o = op;
                unchanged("reckon(" + o + ", " + n + ", 1, 4)", -1, x -> x.reckon(o, n, 1, 4));
                unchanged("reckon(" + o + ", 1, " + n + ", 4)", -1, x -> x.reckon(o, 1, n, 4));
                unchanged("reckon(" + o + ", 1, 4, " + n + ")", -1, x -> x.reckon(o, 1, 4, n));
            }
            for (boolean floor : new boolean[] {false, true}) {
                unchanged("divide(" + n + ", 6, 0, 4, " + floor + ")", -1, x -> x.divide(n, 6, 0, 4, floor));
                unchanged("divide(5, " + n + ", 0, 4, " + floor + ")", -1, x -> x.divide(5, n, 0, 4, floor));
                unchanged("divide(5, 6, " + n + ", 4, " + floor + ")", -1, x -> x.divide(5, 6, n, 4, floor));
                unchanged("divide(5, 6, 0, " + n + ", " + floor + ")", -1, x -> x.divide(5, 6, 0, n, floor));
                unchanged("divide(" + n + ", " + n + ", 0, 4, " + floor + ")", -1, x -> x.divide(n, n, 0, 4, floor));
            }
            unchanged("gcd(" + n + ", 4, 6)", -1, x -> x.gcd(n, 4, 6));
            unchanged("gcd(5, " + n + ", 6)", -1, x -> x.gcd(5, n, 6));
            unchanged("gcd(5, 4, " + n + ")", -1, x -> x.gcd(5, 4, n));
            unchanged("root(" + n + ", 6)", -1, x -> x.root(n, 6));
            unchanged("root(5, " + n + ")", -1, x -> x.root(5, n));
            for (int by : new int[] {-1, 0, 1}) {
                unchanged("shift(" + n + ", 6, " + by + ")", -1, x -> x.shift(n, 6, by));
                unchanged("shift(5, " + n + ", " + by + ")", -1, x -> x.shift(5, n, by));
            }
            for (int to : new int[] {0, 1, 2}) {
                unchanged("power(" + n + ", 6, " + to + ")", -1, x -> x.power(n, 6, to));
                unchanged("power(5, " + n + ", " + to + ")", -1, x -> x.power(5, n, to));
            }
        }
    }

    private void noSuchRegisterForLooks() {
        sentence(TERMS, "A call with a register that is not 0 .. 7 is REFUSED");
        for (int n : NO_REGISTERS) {
            unchanged("compare(" + n + ", 0)", 2, x -> x.compare(n, 0));
            unchanged("compare(0, " + n + ")", 2, x -> x.compare(0, n));
            unchanged("compare(" + n + ", " + n + ")", 2, x -> x.compare(n, n));
            unchanged("sign(" + n + ")", 2, x -> x.sign(n));
            unchanged("bits(" + n + ")", -1, x -> x.bits(n));
            unchanged("part(" + n + ", 0)", -1, x -> x.part(n, 0));
            unchanged("hasBelow(" + n + ", 4096)", false, x -> x.hasBelow(n, 4096));
            unchanged("low(" + n + ")", 0L, x -> x.low(n));
            unchanged("fits(" + n + ")", false, x -> x.fits(n));
            unchanged("write(" + n + ", 10)", -1, x -> x.write(n, 10));
            unchanged("read(" + n + ", 10)", -1, x -> x.read(n, 10));
        }
    }

    private void moreBitsThanThereAre() {
        sentence(TERMS, "so is one whose result would have more than 4096 bits.");
        // Register 0 has 2^4096 - 1, 7 has its negative, 5 has 2^2048, 1 has 1, 3 has -1, 6 has 77.
        unchanged("greatest + 1", -1, x -> x.reckon(0, 2, 0, 1));
        unchanged("-greatest + -1", -1, x -> x.reckon(0, 2, 7, 3));
        unchanged("greatest - -1", -1, x -> x.reckon(1, 2, 0, 3));
        unchanged("-greatest - 1", -1, x -> x.reckon(1, 2, 7, 1));
        unchanged("greatest - -greatest", -1, x -> x.reckon(1, 2, 0, 7));
        unchanged("2^2048 * 2^2048", -1, x -> x.reckon(2, 2, 5, 5));
        unchanged("greatest * -greatest", -1, x -> x.reckon(2, 2, 0, 7));
        unchanged("greatest * 77", -1, x -> x.reckon(2, 2, 0, 6));
        unchanged("greatest * 2", -1, x -> x.shift(2, 0, 1));
        unchanged("1 * 2^4096", -1, x -> x.shift(2, 1, 4096));
        unchanged("-1 * 2^4096", -1, x -> x.shift(2, 3, 4096));
        unchanged("2^2048 to the 2", -1, x -> x.power(2, 5, 2));
        unchanged("2^2048 to the 4096", -1, x -> x.power(2, 5, 4096));
        unchanged("-7 to the 1460", -1, x -> x.power(2, 4, 1460));
    }

    private void asManyBitsAsThereAre() {
        sentence(TERMS, "so is one whose result would have more than 4096 bits.");
        BigInteger half = TWO.pow(4095);
        becomes("greatest + 0", GREATEST, 2, busy(), x -> x.reckon(0, 2, 0, 2));
        becomes("greatest + -1", GREATEST.subtract(ONE), 2, busy(), x -> x.reckon(0, 2, 0, 3));
        becomes("0 - greatest", GREATEST.negate(), 2, busy(), x -> x.reckon(1, 2, 2, 0));
        becomes("-greatest - -1", GREATEST.subtract(ONE).negate(), 2, busy(), x -> x.reckon(1, 2, 7, 3));
        becomes("greatest * -1", GREATEST.negate(), 2, busy(), x -> x.reckon(2, 2, 0, 3));
        becomes("1 * 2^4095", half, 2, busy(), x -> x.shift(2, 1, 4095));
        becomes("-1 * 2^4095", half.negate(), 2, busy(), x -> x.shift(2, 3, 4095));
        becomes("2^2048 * 2^2047", half, 2, busy(), x -> x.shift(2, 5, 2047));
        becomes("-7 to the 1459", BigInteger.valueOf(-7).pow(1459), 2, busy(), x -> x.power(2, 4, 1459));
        becomes("-greatest to the 1", GREATEST.negate(), 2, busy(), x -> x.power(2, 7, 1));
    }

    /** A product of factors with 4097 bits together has 4096 or 4097. */
    private void productsAtTheLimit() {
        sentence(TERMS, "so is one whose result would have more than 4096 bits.");
        becomes("2^2048 * 2^2047", TWO.pow(4095), 2, powers(2048, 2047), x -> x.reckon(2, 2, 0, 1));
        unchanged("2^2048 * 2^2048", -1, () -> powers(2048, 2048), x -> x.reckon(2, 2, 0, 1));
        unchanged("2^4095 * 2^4095", -1, () -> powers(4095, 4095), x -> x.reckon(2, 2, 0, 1));
        unchanged("2^4095 * 2", -1, () -> powers(4095, 1), x -> x.reckon(2, 2, 0, 1));
        unchanged("(2^2049 - 1) * (2^2048 - 1)", -1, () -> ones(2049, 2048), x -> x.reckon(2, 2, 0, 1));
        unchanged("(2^4096 - 1) * 2", -1, TermSentences::greatestAndTwo, x -> x.reckon(2, 2, 0, 1));
        unchanged("(2^241 - 1)^17", -1, () -> ones(241, 241), x -> x.power(2, 0, 17));
        unchanged("2 to the 4096", -1, TermSentences::greatestAndTwo, x -> x.power(2, 1, 4096));
        becomes("2 to the 4095", TWO.pow(4095), 2, greatestAndTwo(), x -> x.power(2, 1, 4095));
        BigInteger root = TWO.pow(2048).subtract(ONE);
        becomes("2^2048 - 1 to the 2", root.pow(2), 2, ones(2048, 2048), x -> x.power(2, 0, 2));
        becomes("(2^2048 - 1) * itself", root.pow(2), 0, ones(2048, 2048), x -> x.reckon(2, 0, 0, 0));
    }

    private static WholeNumbers powers(int m, int n) {
        WholeNumbers x = with(1, 1);
        x.shift(0, 0, m);
        x.shift(1, 1, n);
        return x;
    }

    private static WholeNumbers ones(int m, int n) {
        WholeNumbers x = powers(m, n);
        x.load(2, 1);
        x.reckon(1, 0, 0, 2);
        x.reckon(1, 1, 1, 2);
        return x;
    }

    private static WholeNumbers greatestAndTwo() {
        WholeNumbers x = with(0, 2);
        Hand.greatest(x, 0, 7);
        return x;
    }

    /** In bases below 9 a text for so many bits is longer than what can be typed. */
    private void textsAtTheLimit() {
        sentence(TERMS, "so is one whose result would have more than 4096 bits.");
        for (int base = 9; base <= 16; base++) {
            int b = base;
            becomes("read of 2^4096 - 1 in base " + b, GREATEST, 1, withTextOf(GREATEST, b), x -> x.read(1, b));
            unchangedRegister("read of 2^4096 in base " + b, withTextOf(GREATEST.add(ONE), b), x -> x.read(1, b));
        }
        for (int base = 3; base <= 16; base++) {
            int b = base;
            WholeNumbers x = with(0, 77);
            Hand.greatest(x, 0, 7);
            x.write(0, 2);
            unchangedRegister("read of 4096 digits 1 in base " + b, x, y -> y.read(1, b));
        }
    }

    private void unchangedRegister(String name, WholeNumbers x, Call call) {
        due(name, answer(x, call), -1);
        due("low(1) behind " + name, x.low(1), 77L);
    }

    private static WholeNumbers withTextOf(BigInteger value, int base) {
        BigInteger[] headAndLast = value.divideAndRemainder(BigInteger.valueOf(base));
        WholeNumbers x = with(0, 77);
        Hand.put(x, 0, headAndLast[0]);
        x.write(0, base);
        x.type(Character.forDigit(headAndLast[1].intValue(), base));
        return x;
    }

    private void refusedChangesNothing() {
        sentence(TERMS, "A call that is refused or throws changes nothing.");
        unchanged("divide(5, 6, 0, 2, false)", "throws.ArithmeticException", x -> x.divide(5, 6, 0, 2, false));
        unchanged("divide(0, 2, 0, 2, true)", "throws.ArithmeticException", x -> x.divide(0, 2, 0, 2, true));
        unchanged("root(6, 4)", "throws.IllegalArgumentException", x -> x.root(6, 4));
        unchanged("root(4, 4)", "throws.IllegalArgumentException", x -> x.root(4, 4));
        unchanged("reckon(0, 0, 0, 0)", -1, x -> x.reckon(0, 0, 0, 0));
        unchanged("reckon(2, 7, 7, 7)", -1, x -> x.reckon(2, 7, 7, 7));
        unchanged("reckon(2, 5, 5, 5)", -1, x -> x.reckon(2, 5, 5, 5));
        unchanged("power(5, 5, 2)", -1, x -> x.power(5, 5, 2));
        unchanged("power(4, 4, 4096)", -1, x -> x.power(4, 4, 4096));
        unchanged("shift(6, 6, 4090)", -1, x -> x.shift(6, 6, 4090));
        unchanged("divide(0, 0, 0, 6, true)", -1, x -> x.divide(0, 0, 0, 6, true));
        unchanged("read(0, 1)", -1, x -> x.read(0, 1));
        unchanged("write(0, 17)", -1, x -> x.write(0, 17));
        unchanged("type(128)", -1, x -> x.type(128));
    }

    /** What a refused call has reckoned inside the object is not seen by the next calls either. */
    private void refusedLeavesNoTrace() {
        sentence(TERMS, "A call that is refused or throws changes nothing.");
        Call[] refused = {
            x -> x.reckon(0, 2, 0, 0), x -> x.reckon(2, 2, 5, 5), x -> x.reckon(3, 2, 0, 0), x -> x.power(2, 4, 4096),
            x -> x.power(2, 5, 2), x -> x.shift(2, 0, 4096), x -> x.divide(2, 4, 0, 2, true), x -> x.root(2, 7),
            x -> x.read(8, 16), x -> x.write(8, 2), x -> x.type(-1), x -> x.gcd(2, 0, 9),
        };
        Call[] good = {
            x -> x.load(0, Long.MIN_VALUE), x -> x.reckon(0, 0, 0, 7), x -> x.reckon(1, 0, 5, 6),
            x -> x.reckon(2, 0, 6, 4), x -> x.divide(0, 7, 7, 4, true), x -> x.gcd(0, 0, 5), x -> x.root(0, 0),
            x -> x.shift(0, 0, -1), x -> x.power(0, 4, 9), x -> x.compare(0, 7), x -> x.part(0, 4090),
            x -> x.write(6, 2), x -> x.type('9'), x -> x.read(0, 2), x -> x.low(6), x -> x.hasBelow(5, 2048),
        };
        for (int i = 0; i < refused.length; i++) {
            for (int j = 0; j < good.length; j++) {
                WholeNumbers fresh = busy();
                WholeNumbers x = busy();
                answer(x, refused[i]);
                String name = "good call " + j + " behind refused call " + i;
                due(name, answer(x, good[j]), answer(fresh, good[j]));
                due("registers and text of " + name, Hand.state(x), Hand.state(fresh));
            }
        }
    }

    private void newRegisters() {
        sentence(1, "All registers 0");
        WholeNumbers x = new WholeNumbers();
        for (int a = 0; a < 8; a++) {
            due("low(" + a + ")", x.low(a), 0L);
            due("sign(" + a + ")", x.sign(a), 0);
            due("bits(" + a + ")", x.bits(a), 0);
            due("fits(" + a + ")", x.fits(a), true);
            due("part(" + a + ", 0)", x.part(a, 0), 0);
            due("hasBelow(" + a + ", 4096)", x.hasBelow(a, 4096), false);
            due("compare(" + a + ", 0)", x.compare(a, 0), 0);
        }
        busy();
        due("low(0) of a new object behind another one", new WholeNumbers().low(0), 0L);
        due("bits(0) of the first one behind another one", x.bits(0), 0);
    }

    private void newText() {
        sentence(1, "the text empty.");
        WholeNumbers x = new WholeNumbers();
        due("character(0)", x.character(0), -1);
        due("read(0, 10)", x.read(0, 10), -1);
        due("type('7')", x.type('7'), 1);
        due("character(0) of a new object behind another one", new WholeNumbers().character(0), -1);
    }
}
