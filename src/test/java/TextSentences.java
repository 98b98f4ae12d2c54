import java.math.BigInteger;

/** The calls on the text: write, type, clear, character and read. */
final class TextSentences extends Sentences {
    private static final String DIGITS = "0123456789abcdef";

    TextSentences(Check check, Document document) {
        super(check, document);
    }

    @Override
    void run() {
        written();
        minusSign();
        digits();
        leadingZeros();
        noSuchBaseToWrite();
        typed();
        noSuchCode();
        fullText();
        cleared();
        characters();
        noSuchCharacter();
        readInEveryBase();
        readMinus();
        readDigits();
        readLetters();
        noSuchBaseToRead();
        readNothing();
    }

    private void dueText(String name, String want, WholeNumbers x, Call call) {
        due(name, answer(x, call), want.length());
        due("the text of " + name, Hand.text(x), want);
    }

    private void written() {
        sentence(16, "The text becomes register a in a base 2 .. 16");
        for (int base = 2; base <= 16; base++) {
            int b = base;
            for (long v : new long[] {0, 1, b - 1, b, b * b - 1, -b * b, 1 << 30, Long.MAX_VALUE, Long.MIN_VALUE}) {
                dueText(v + " in base " + b, Long.toString(v, b), with(v), x -> x.write(0, b));
            }
        }
        WholeNumbers x = with(12);
        Hand.type(x, "a longer text before");
        dueText("12 over a longer text", "12", x, y -> y.write(0, 10));
        due("the number behind it", x.low(0), 12L);
        for (int base = 2; base <= 16; base++) {
            due("length of -greatest in base " + base, busy().write(7, base), GREATEST.toString(base).length() + 1);
        }
    }

    private void minusSign() {
        sentence(16, "a - if it is negative");
        dueText("-1", "-1", with(-1), x -> x.write(0, 10));
        dueText("1", "1", with(1), x -> x.write(0, 10));
        dueText("-255 in base 16", "-ff", with(-255), x -> x.write(0, 16));
        WholeNumbers zero = with(-5, 5);
        zero.reckon(0, 0, 0, 1);
        dueText("-5 plus 5", "0", zero, x -> x.write(0, 10));
        WholeNumbers x = busy();
        due("length of -greatest in base 2", x.write(7, 2), 4097);
        int[][] rows = {{0, '-'}, {1, '1'}, {2048, '1'}, {4096, '1'}, {4097, -1}};
        for (int[] row : rows) {
            due("character " + row[0] + " of it", x.character(row[0]), row[1]);
        }
    }

    private void digits() {
        sentence(16, "digits 0 .. 9 a .. f");
        for (int digit = 0; digit < 16; digit++) {
            String want = DIGITS.substring(digit, digit + 1);
            for (int base = Math.max(digit + 1, 2); base <= 16; base++) {
                int b = base;
                dueText(digit + " in base " + b, want, with(digit), x -> x.write(0, b));
            }
        }
        dueText("all digits", "123456789abcdef", with(0x123456789abcdefL), x -> x.write(0, 16));
        dueText("all digits downwards", "-7edcba9876543210", with(-0x7edcba9876543210L), x -> x.write(0, 16));
    }

    private void leadingZeros() {
        sentence(16, "without leading zeros but for 0 itself: its length");
        for (int base = 2; base <= 16; base++) {
            int b = base;
            dueText("0 in base " + b, "0", with(0), x -> x.write(0, b));
            dueText("-1 in base " + b, "-1", with(-1), x -> x.write(0, b));
            for (int n = 1; n <= 40; n++) {
                BigInteger power = BigInteger.valueOf(b).pow(n);
                WholeNumbers x = with(b, 1);
                x.power(0, 0, n);
                dueText(b + "^" + n + " in base " + b, power.toString(b), x, y -> y.write(0, b));
                x.reckon(1, 0, 0, 1);
                dueText(b + "^" + n + " - 1 in base " + b, power.subtract(ONE).toString(b), x, y -> y.write(0, b));
            }
        }
    }

    private void noSuchBaseToWrite() {
        sentence(16, "-1 refused, also for another base.");
        for (int base : NO_BASES) {
            unchanged("write(6, " + base + ")", -1, x -> x.write(6, base));
            unchanged("write(2, " + base + ")", -1, x -> x.write(2, base));
        }
        for (int n : NO_REGISTERS) {
            unchanged("write(" + n + ", 2)", -1, x -> x.write(n, 2));
            unchanged("write(" + n + ", 16)", -1, x -> x.write(n, 16));
        }
    }

    private void typed() {
        sentence(17, "Appends a character to the text: its length");
        WholeNumbers x = new WholeNumbers();
        for (int code = 0; code < 128; code++) {
            due("type(" + code + ")", x.type(code), code + 1);
        }
        for (int code = 0; code < 128; code++) {
            due("character(" + code + ")", x.character(code), code);
        }
        WholeNumbers y = with(-12);
        y.write(0, 10);
        dueText("type('3') behind write", "-123", y, z -> z.type('3'));
        due("read behind it", y.read(1, 10), 7);
        dueText("type('4') behind read", "-1234", y, z -> z.type('4'));
    }

    private void noSuchCode() {
        sentence(17, "-1 refused if the code is not 0 .. 127");
        int[] codes = {-1, 128, 129, 255, 256, 256 + 65, 65536, 65536 + 65, -128, -65536 + 65, Integer.MIN_VALUE,
            Integer.MAX_VALUE};
        for (int code : codes) {
            unchanged("type(" + code + ")", -1, x -> x.type(code));
            unchanged("type(" + code + ") on an empty text", -1, WholeNumbers::new, x -> x.type(code));
        }
    }

    /** A text of so many characters, which is 2 to some power in base 2. */
    private static WholeNumbers withLength(int length) {
        WholeNumbers x = with(1);
        x.shift(0, 0, length - 1);
        x.write(0, 2);
        return x;
    }

    private void fullText() {
        sentence(17, "or it has 1300 already.");
        WholeNumbers x = withLength(1298);
        due("type on 1298 characters", x.type('a'), 1299);
        due("type on 1299 characters", x.type('b'), 1300);
        due("type on 1300 characters", x.type('c'), -1);
        due("type on 1300 characters again", x.type(0), -1);
        due("character(1298)", x.character(1298), (int) 'a');
        due("character(1299)", x.character(1299), (int) 'b');
        due("character(1300)", x.character(1300), -1);
        for (int length : new int[] {1300, 1301, 2000, 4095, 4096}) {
            WholeNumbers y = withLength(length);
            due("type on " + length + " characters", y.type('1'), -1);
            due("character(" + length + ")", y.character(length), -1);
            due("character(" + (length - 1) + ")", y.character(length - 1), (int) '0');
            due("read behind it", y.read(1, 2), length);
        }
        WholeNumbers z = withLength(4096);
        z.clear();
        due("type behind clear", z.type('1'), 1);
        z.write(0, 2);
        z.write(1, 2);
        due("type behind a short text", z.type('1'), 2);
    }

    private void cleared() {
        sentence(18, "The text is empty.");
        WholeNumbers x = busy();
        String before = Hand.state(x);
        x.clear();
        due("character(0)", x.character(0), -1);
        due("character(3)", x.character(3), -1);
        due("read(1, 10)", x.read(1, 10), -1);
        x.clear();
        due("character(0) behind clear of an empty text", x.character(0), -1);
        due("type behind it", x.type('-'), 1);
        WholeNumbers y = busy();
        y.clear();
        due("the registers behind clear", Hand.state(y) + "-101", before);
        WholeNumbers z = withLength(4096);
        z.clear();
        due("character(0) behind clear of a long text", z.character(0), -1);
        due("character(4095) behind clear of a long text", z.character(4095), -1);
    }

    private void characters() {
        sentence(19, "The code of character i of the text");
        WholeNumbers x = withText("-0Zz\0");
        int[] want = {'-', '0', 'Z', 'z', 0};
        for (int i = 0; i < want.length; i++) {
            due("character(" + i + ")", x.character(i), want[i]);
        }
        WholeNumbers y = withLength(4096);
        due("character(0) of 4096", y.character(0), (int) '1');
        due("character(4095) of 4096", y.character(4095), (int) '0');
    }

    private void noSuchCharacter() {
        sentence(19, "-1 if there is none.");
        for (int i : new int[] {-1, 4, 5, 1300, 4096, 4097, 4098, -4, Integer.MIN_VALUE, Integer.MAX_VALUE}) {
            unchanged("character(" + i + ") of 4", -1, x -> x.character(i));
            unchanged("character(" + i + ") of none", -1, WholeNumbers::new, x -> x.character(i));
        }
        due("character(4096) of 4096", withLength(4096).character(4096), -1);
        WholeNumbers x = withLength(100);
        x.write(1, 10);
        due("character(1) of a text that was longer", x.character(1), -1);
    }

    private void readInEveryBase() {
        sentence(20, "Register t becomes the number that the text tells in a base 2 .. 16");
        for (int base = 2; base <= 16; base++) {
            int b = base;
            becomes("10 in base " + b, b, 1, withText("10"), x -> x.read(1, b));
            becomes("the last digit of base " + b, b - 1, 1, withText(DIGITS.substring(b - 1, b)), x -> x.read(1, b));
            for (long v : new long[] {0, 1, -b * b, Long.MAX_VALUE, Long.MIN_VALUE}) {
                becomes(v + " in base " + b, v, 1, withText(Long.toString(v, b)), x -> x.read(1, b));
            }
            WholeNumbers greatest = busy();
            greatest.write(7, b);
            becomes("-greatest in base " + b, GREATEST.negate(), 1, greatest, x -> x.read(1, b));
        }
        WholeNumbers x = withText("12");
        x.read(0, 10);
        due("the text behind read", Hand.text(x), "12");
        due("read again in base 3", x.read(7, 3), 3);
    }

    private void readMinus() {
        sentence(20, "a - or none");
        becomes("-5", -5, 1, withText("-5"), x -> x.read(1, 10));
        becomes("5", 5, 1, withText("5"), x -> x.read(1, 10));
        for (String none : new String[] {"--5", "-", "--", "5-", "-5-", "5-5", "+5", "-+5", " -5", "- 5"}) {
            unchanged("read of '" + none + "'", -1, () -> withText(none), x -> x.read(1, 10));
        }
        for (String zero : new String[] {"0", "-0", "-000"}) {
            WholeNumbers y = withText(zero);
            becomes(zero, 0, 1, y, x -> x.read(1, 10));
            due("sign of " + zero, y.sign(1), 0);
            due("it is as great as 0", y.compare(1, 2), 0);
        }
    }

    private void readDigits() {
        sentence(20, "then one or more digits");
        becomes("one digit", 7, 1, withText("7"), x -> x.read(1, 10));
        becomes("two digits", 70, 1, withText("70"), x -> x.read(1, 10));
        becomes("zeros before", 7, 1, withText("0".repeat(100) + "7"), x -> x.read(1, 10));
        becomes("400 zeros", 0, 1, withText("0".repeat(400)), x -> x.read(1, 10));
        becomes("- and zeros before", -7, 1, withText("-" + "0".repeat(100) + "7"), x -> x.read(1, 8));
        for (int n = 1; n <= 40; n++) {
            BigInteger nines = BigInteger.TEN.pow(n).subtract(ONE);
            becomes(n + " nines", nines, 1, withText("9".repeat(n)), x -> x.read(1, 10));
            becomes(n + " ones in base 2", TWO.pow(n).subtract(ONE), 1, withText("1".repeat(n)), x -> x.read(1, 2));
        }
        // Digits are those below the base, and nothing beside them in the table of characters.
        for (int base = 2; base < 16; base++) {
            int b = base;
            String digit = DIGITS.substring(b, b + 1);
            unchanged(digit + " in base " + b, -1, () -> withText(digit), x -> x.read(1, b));
            unchanged("1" + digit + " in base " + b, -1, () -> withText("1" + digit), x -> x.read(1, b));
            unchanged(digit + "1 in base " + b, -1, () -> withText(digit + "1"), x -> x.read(1, b));
        }
    }

    private void readLetters() {
        sentence(20, "letters small or great: its bits");
        for (int digit = 10; digit < 16; digit++) {
            String small = DIGITS.substring(digit, digit + 1);
            String great = small.toUpperCase(java.util.Locale.ROOT);
            for (int base = 10; base <= 16; base++) {
                int b = base;
                if (digit < base) {
                    becomes(small + " in base " + b, digit, 1, withText(small), x -> x.read(1, b));
                    becomes(great + " in base " + b, digit, 1, withText(great), x -> x.read(1, b));
                } else {
                    unchanged(small + " in base " + b, -1, () -> withText(small), x -> x.read(1, b));
                    unchanged(great + " in base " + b, -1, () -> withText(great), x -> x.read(1, b));
                }
            }
        }
        becomes("-aBcDeF", -0xabcdef, 1, withText("-aBcDeF"), x -> x.read(1, 16));
        becomes("AbCdEf09", 0xabcdef09L, 1, withText("AbCdEf09"), x -> x.read(1, 16));
    }

    private void noSuchBaseToRead() {
        sentence(20, "-1 refused, also for another base");
        for (int base : NO_BASES) {
            unchanged("read(6, " + base + ")", -1, x -> x.read(6, base));
            unchanged("read of 0 in base " + base, -1, () -> withText("0"), x -> x.read(1, base));
        }
        for (int n : NO_REGISTERS) {
            unchanged("read(" + n + ", 2)", -1, x -> x.read(n, 2));
            unchanged("read(" + n + ", 16)", -1, x -> x.read(n, 16));
        }
    }

    private void readNothing() {
        sentence(20, "or if the text tells none.");
        for (int base = 2; base <= 16; base++) {
            int b = base;
            unchanged("the empty text in base " + b, -1, () -> withText(""), x -> x.read(1, b));
            unchanged("- in base " + b, -1, () -> withText("-"), x -> x.read(1, b));
        }
        String digits = DIGITS + "ABCDEF";
        for (int code = 0; code < 128; code++) {
            String letter = String.valueOf((char) code);
            if (digits.indexOf(code) < 0) {
                String[] texts = {letter, "1" + letter, "-" + letter + "1", "1" + letter + "1", "-1" + letter};
                for (String told : texts) {
                    unchanged("1, - and the character " + code, -1, () -> withText(told), x -> x.read(1, 16));
                }
            }
        }
    }
}
