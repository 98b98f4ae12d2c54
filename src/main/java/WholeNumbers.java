/** Whole numbers of thousands of bits in eight registers, with what one reckons with them, and their texts. */
public final class WholeNumbers {
    private static final int REGISTERS = 8;
    private static final int MOST_BITS = 4096;
    private static final int MOST_SHIFT = 4096;
    private static final int MOST_POWER = 4096;
    private static final int POWER_BITS = 13;
    private static final int LEAST_BASE = 2;
    private static final int MOST_BASE = 16;
    private static final int MOST_CODE = 127;
    private static final int MOST_TYPED = 1300;
    // 4096 digits of base 2 and a minus sign.
    private static final int MOST_LETTERS = 4097;

    private static final int REFUSED = -1;
    private static final int NO_ORDER = 2;

    private static final int INT_BITS = 32;
    private static final int LONG_BITS = 64;
    // With 30 bits in a limb, the product of two limbs and all that is carried stay far inside a long.
    private static final int LIMB_BITS = 30;
    private static final int LIMB_MASK = (1 << LIMB_BITS) - 1;
    // 4096 bits fill 137 limbs; a result before it is refused needs one more, a long division's dividend two.
    private static final int LIMBS = 140;

    private final Whole[] registers;
    // Results grow in these two and reach a register only when nothing can be refused any more.
    private final Whole result;
    private final Whole second;
    private final LongDivision division;
    private final Euclid euclid;
    private final Text text;

    public WholeNumbers() {
        registers = new Whole[REGISTERS];
        for (int i = 0; i < REGISTERS; i++) {
            registers[i] = new Whole();
        }
        result = new Whole();
        second = new Whole();
        division = new LongDivision();
        euclid = new Euclid();
        text = new Text();
    }

    public boolean load(int t, long v) {
        if (!isRegister(t)) {
            return false;
        }
        registers[t].takeLong(v);
        return true;
    }

    public int reckon(int op, int t, int a, int b) {
        if (!areRegisters(t, a, b)) {
            return REFUSED;
        }
        Whole x = registers[a];
        Whole y = registers[b];
        switch (op) {
            case 0:
                result.takeSum(x, y, y.negative);
                return keepResult(t);
            case 1:
                result.takeSum(x, y, !y.negative);
                return keepResult(t);
            case 2:
                return result.takeProduct(x, y) ? keepResult(t) : REFUSED;
            default:
                return REFUSED;
        }
    }

    public int divide(int q, int r, int a, int b, boolean floor) throws ArithmeticException {
        if (!isRegister(q) || !areRegisters(r, a, b) || q == r) {
            return REFUSED;
        }
        Whole x = registers[a];
        Whole y = registers[b];
        if (y.size.isZero()) {
            throw new ArithmeticException("the divisor is 0");
        }
        cutQuotient(x, y);
        if (floor && x.negative != y.negative && !second.size.isZero()) {
            stepDown(y);
        }
        registers[q].take(result);
        registers[r].take(second);
        return result.size.bitLength();
    }

    public int gcd(int t, int a, int b) {
        if (!areRegisters(t, a, b)) {
            return REFUSED;
        }
        result.size.take(euclid.commonDivisor(registers[a].size, registers[b].size, division));
        result.takeSign(false);
        return keepResult(t);
    }

    public int root(int t, int a) throws IllegalArgumentException {
        if (!isRegister(t) || !isRegister(a)) {
            return REFUSED;
        }
        if (registers[a].negative) {
            throw new IllegalArgumentException("no root of a number below 0");
        }
        takeRoot(registers[a].size);
        return keepResult(t);
    }

    public int shift(int t, int a, int n) {
        if (!isRegister(t) || !isRegister(a) || n < -MOST_SHIFT || n > MOST_SHIFT) {
            return REFUSED;
        }
        Whole x = registers[a];
        if (n <= 0) {
            result.size.shiftDown(x.size, -n);
        } else if (x.size.isZero() || x.size.bitLength() + n <= MOST_BITS) {
            result.size.shiftUp(x.size, n);
        } else {
            return REFUSED;
        }
        result.takeSign(x.negative);
        return keepResult(t);
    }

    public int power(int t, int a, int n) {
        if (!isRegister(t) || !isRegister(a) || n < 0 || n > MOST_POWER) {
            return REFUSED;
        }
        return takePower(registers[a], n) ? keepResult(t) : REFUSED;
    }

    public int compare(int a, int b) {
        if (!isRegister(a) || !isRegister(b)) {
            return NO_ORDER;
        }
        return registers[a].order(registers[b]);
    }

    public int sign(int a) {
        return isRegister(a) ? registers[a].direction() : NO_ORDER;
    }

    public int bits(int a) {
        return isRegister(a) ? registers[a].size.bitLength() : REFUSED;
    }

    public int part(int a, int i) {
        return isRegister(a) && i >= 0 ? registers[a].size.limbFrom(i) : REFUSED;
    }

    public boolean hasBelow(int a, int n) {
        return isRegister(a) && n >= 1 && registers[a].size.anyBitBelow(n);
    }

    public long low(int a) {
        return fits(a) ? registers[a].asLong() : 0L;
    }

    public boolean fits(int a) {
        return isRegister(a) && registers[a].isLong();
    }

    public int write(int a, int base) {
        if (!isRegister(a) || !isBase(base)) {
            return REFUSED;
        }
        result.take(registers[a]);
        text.spell(result, base);
        return text.length;
    }

    public int type(int code) {
        if (code < 0 || code > MOST_CODE || text.length >= MOST_TYPED) {
            return REFUSED;
        }
        text.append((char) code);
        return text.length;
    }

    public void clear() {
        text.length = 0;
    }

    public int character(int i) {
        return i >= 0 && i < text.length ? text.letters[i] : REFUSED;
    }

    public int read(int t, int base) {
        if (!isRegister(t) || !isBase(base) || !text.tellsNumber(base)) {
            return REFUSED;
        }
        text.tell(result, base);
        return keepResult(t);
    }

    private static boolean isRegister(int i) {
        return i >= 0 && i < REGISTERS;
    }

    private static boolean areRegisters(int i, int j, int k) {
        return isRegister(i) && isRegister(j) && isRegister(k);
    }

    private static boolean isBase(int base) {
        return base >= LEAST_BASE && base <= MOST_BASE;
    }

    private int keepResult(int t) {
        int length = result.size.bitLength();
        if (length > MOST_BITS) {
            return REFUSED;
        }
        registers[t].take(result);
        return length;
    }

    /** Leaves the quotient of x and y, cut towards 0, in result and the rest in second. */
    private void cutQuotient(Whole x, Whole y) {
        division.split(x.size, y.size);
        result.size.take(division.quotient);
        result.takeSign(x.negative != y.negative);
        second.size.take(division.rest);
        second.takeSign(x.negative);
    }

    /** From a quotient below 0 that was cut towards 0 to the next one downwards, with its rest. */
    private void stepDown(Whole y) {
        result.size.timesPlus(1, 1);
        result.takeSign(true);
        second.size.takeDifference(y.size, second.size);
        second.takeSign(y.negative);
    }

    /** Newton's way: from above, each guess becomes the mean of itself and the square divided by it. */
    private void takeRoot(Natural square) {
        result.takeLong(1L);
        Natural guess = result.size;
        if (square.isZero()) {
            guess.take(square);
            return;
        }
        guess.shiftUp(guess, (square.bitLength() + 1) / 2);
        Natural next = second.size;
        for (int round = 0; round < MOST_BITS; round++) {
            division.split(square, guess);
            next.takeSum(guess, division.quotient);
            next.shiftDown(next, 1);
            if (next.order(guess) >= 0) {
                return;
            }
            guess.take(next);
        }
    }

    /** False if it has too many bits. From n's highest bit down, so that no product is greater than the result. */
    private boolean takePower(Whole base, int n) {
        result.takeLong(1L);
        for (int bit = POWER_BITS - 1; bit >= 0; bit--) {
            if (!multiplyResult(result)) {
                return false;
            }
            if ((n >> bit & 1) == 1 && !multiplyResult(base)) {
                return false;
            }
        }
        return true;
    }

    private boolean multiplyResult(Whole factor) {
        if (!second.takeProduct(result, factor) || second.size.bitLength() > MOST_BITS) {
            return false;
        }
        result.take(second);
        return true;
    }

    /** A number not below 0: limbs of 30 bits, the lowest first. */
    private static final class Natural {
        final int[] limbs = new int[LIMBS];
        // How many limbs are in use; the highest of them is not 0, and what stands above them has no meaning.
        int count;

        boolean isZero() {
            return count == 0;
        }

        int limb(int i) {
            return i >= 0 && i < count ? limbs[i] : 0;
        }

        int bitLength() {
            return count * LIMB_BITS - spareBits();
        }

        /** How many bits of the highest limb stand above its highest 1. */
        int spareBits() {
            return count == 0 ? 0 : Integer.numberOfLeadingZeros(limb(count - 1)) - (INT_BITS - LIMB_BITS);
        }

        /** The 30 bits from bit i upwards. */
        int limbFrom(int i) {
            int place = i / LIMB_BITS;
            int within = i % LIMB_BITS;
            return (limb(place) >>> within | limb(place + 1) << (LIMB_BITS - within)) & LIMB_MASK;
        }

        boolean anyBitBelow(int n) {
            int whole = n / LIMB_BITS;
            for (int i = 0; i < whole && i < count; i++) {
                if (limbs[i] != 0) {
                    return true;
                }
            }
            return (limb(whole) & ((1 << n % LIMB_BITS) - 1)) != 0;
        }

        long lowestLong() {
            return limb(0) | (long) limb(1) << LIMB_BITS | (long) limb(2) << 2 * LIMB_BITS;
        }

        int order(Natural other) {
            if (count != other.count) {
                return count < other.count ? -1 : 1;
            }
            for (int i = count - 1; i >= 0; i--) {
                if (limbs[i] != other.limbs[i]) {
                    return limbs[i] < other.limbs[i] ? -1 : 1;
                }
            }
            return 0;
        }

        void take(Natural other) {
            System.arraycopy(other.limbs, 0, limbs, 0, other.count);
            count = other.count;
        }

        /** Takes a long without a sign: its highest bit counts 2^63. */
        void takeUnsigned(long value) {
            limbs[0] = (int) value & LIMB_MASK;
            limbs[1] = (int) (value >>> LIMB_BITS) & LIMB_MASK;
            limbs[2] = (int) (value >>> 2 * LIMB_BITS);
            trim(3);
        }

        /** Sets the count to that of the limbs below size without leading zeros. */
        void trim(int size) {
            int left = Math.min(size, LIMBS);
            while (left > 0 && limbs[left - 1] == 0) {
                left--;
            }
            count = Math.max(left, 0);
        }

        void takeSum(Natural x, Natural y) {
            int size = Math.min(Math.max(x.count, y.count) + 1, LIMBS);
            int carry = 0;
            for (int i = 0; i < size; i++) {
                // Two limbs and a carry fill 31 bits at the most.
                int sum = x.limb(i) + y.limb(i) + carry;
                limbs[i] = sum & LIMB_MASK;
                carry = sum >>> LIMB_BITS;
            }
            trim(size);
        }

        /** Takes x less y; y is not greater than x. */
        void takeDifference(Natural x, Natural y) {
            int size = x.count;
            int borrow = 0;
            for (int i = 0; i < size; i++) {
                int difference = x.limb(i) - y.limb(i) + borrow;
                limbs[i] = difference & LIMB_MASK;
                borrow = difference >> LIMB_BITS;
            }
            trim(size);
        }

        /** Takes x times y, which have 138 limbs together at the most; neither is this number. */
        void takeProduct(Natural x, Natural y) {
            int size = Math.min(x.count + y.count, LIMBS);
            for (int i = 0; i < size; i++) {
                limbs[i] = 0;
            }
            for (int i = 0; i < x.count && i + y.count < LIMBS; i++) {
                limbs[i + y.count] = addRow(y, x.limbs[i], i);
            }
            trim(size);
        }

        /** Adds y times the factor from limb i upwards, and answers what is carried out of the row. */
        private int addRow(Natural y, long factor, int i) {
            long carry = 0;
            for (int j = 0; j < y.count; j++) {
                long sum = factor * y.limbs[j] + limbs[i + j] + carry;
                limbs[i + j] = (int) sum & LIMB_MASK;
                carry = sum >>> LIMB_BITS;
            }
            return (int) carry;
        }

        /** Takes x times 2^n, which has 138 limbs at the most; x may be this number. */
        void shiftUp(Natural x, int n) {
            int places = n / LIMB_BITS;
            int within = n % LIMB_BITS;
            int size = Math.min(x.count + places + 1, LIMBS);
            for (int i = size - 1; i >= 0; i--) {
                int from = i - places;
                limbs[i] = (x.limb(from) << within | x.limb(from - 1) >>> (LIMB_BITS - within)) & LIMB_MASK;
            }
            trim(size);
        }

        /** Takes x by 2^n, cut; x may be this number. */
        void shiftDown(Natural x, int n) {
            int size = Math.max(x.count - n / LIMB_BITS, 0);
            for (int i = 0; i < size; i++) {
                limbs[i] = x.limbFrom(i * LIMB_BITS + n);
            }
            trim(size);
        }

        /** Multiplies by a factor below 2^30 and adds; there is a limb left for what is carried out. */
        void timesPlus(int factor, int addend) {
            long carry = addend;
            for (int i = 0; i < count; i++) {
                long sum = (long) factor * limbs[i] + carry;
                limbs[i] = (int) sum & LIMB_MASK;
                carry = sum >>> LIMB_BITS;
            }
            if (count < LIMBS) {
                limbs[count] = (int) carry;
                trim(count + 1);
            }
        }

        /** Divides by a divisor of 1 to 2^30 - 1 and answers the rest. */
        int cutBy(int divisor) {
            if (divisor < 1) {
                return 0;
            }
            long rest = 0;
            for (int i = count - 1; i >= 0; i--) {
                long dividend = rest << LIMB_BITS | limbs[i];
                limbs[i] = (int) (dividend / divisor);
                rest = dividend % divisor;
            }
            trim(count);
            return (int) rest;
        }

        /** Makes the limbs from the count up to size count as zeros. */
        void padTo(int size) {
            for (int i = count; i < size && i < LIMBS; i++) {
                limbs[i] = 0;
            }
        }
    }

    /** A number with its sign; 0 is never negative. */
    private static final class Whole {
        final Natural size = new Natural();
        boolean negative;

        void take(Whole other) {
            size.take(other.size);
            negative = other.negative;
        }

        void takeLong(long value) {
            // The least long is its own negative, and right without its sign.
            size.takeUnsigned(value < 0 ? -value : value);
            negative = value < 0;
        }

        void takeSign(boolean below) {
            negative = below && !size.isZero();
        }

        /** Takes x plus the size of y with the sign that is told. */
        void takeSum(Whole x, Whole y, boolean yNegative) {
            if (x.negative == yNegative) {
                size.takeSum(x.size, y.size);
                takeSign(yNegative);
            } else if (x.size.order(y.size) >= 0) {
                size.takeDifference(x.size, y.size);
                takeSign(x.negative);
            } else {
                size.takeDifference(y.size, x.size);
                takeSign(yNegative);
            }
        }

        /** Takes x times y, neither of them this number; false if it is sure to have too many bits. */
        boolean takeProduct(Whole x, Whole y) {
            // A product has as many bits as its factors together, or one less.
            if (x.size.bitLength() + y.size.bitLength() > MOST_BITS + 1) {
                return false;
            }
            size.takeProduct(x.size, y.size);
            takeSign(x.negative != y.negative);
            return true;
        }

        int direction() {
            if (size.isZero()) {
                return 0;
            }
            return negative ? -1 : 1;
        }

        int order(Whole other) {
            if (negative != other.negative) {
                return negative ? -1 : 1;
            }
            return negative ? other.size.order(size) : size.order(other.size);
        }

        boolean isLong() {
            int length = size.bitLength();
            boolean isLeast = negative && length == LONG_BITS && !size.anyBitBelow(LONG_BITS - 1);
            return length < LONG_BITS || isLeast;
        }

        long asLong() {
            return negative ? -size.lowestLong() : size.lowestLong();
        }
    }

    /** Long division by limbs (Knuth's algorithm D), with the rows that it works in. */
    private static final class LongDivision {
        final Natural quotient = new Natural();
        // The dividend at first, of which every digit of the quotient takes its share away.
        final Natural rest = new Natural();
        private final Natural divisor = new Natural();

        /** Leaves x by y, cut, in quotient and what remains in rest; y is not 0. */
        void split(Natural x, Natural y) {
            if (y.isZero()) {
                return;
            }
            // With the divisor's highest bit at the top of a limb, a digit that is guessed is 2 too great at the most.
            int up = y.spareBits();
            divisor.shiftUp(y, up);
            rest.shiftUp(x, up);
            // One limb is left above the dividend, so that no digit's place leaves the row.
            int size = Math.min(rest.count, LIMBS - 1);
            rest.padTo(size + 1);
            int digits = Math.max(size - divisor.count + 1, 0);
            for (int place = digits - 1; place >= 0; place--) {
                quotient.limbs[place] = takeDigit(place);
            }
            quotient.trim(digits);
            rest.shiftDown(rest, up);
        }

        private int takeDigit(int place) {
            int digit = guessDigit(place);
            if (subtractAt(place, digit)) {
                addBackAt(place);
                digit--;
            }
            return digit;
        }

        /** Guesses a digit from the highest limbs: it is right or, seldom, 1 too great. */
        private int guessDigit(int place) {
            int top = place + divisor.count;
            long head = (long) rest.limbs[top] << LIMB_BITS | rest.limbs[top - 1];
            long below = top >= 2 ? rest.limbs[top - 2] : 0;
            long lead = divisor.limb(divisor.count - 1);
            long next = divisor.limb(divisor.count - 2);
            if (lead == 0) {
                return 0;
            }
            long digit = head / lead;
            long left = head % lead;
            for (int i = 0; i < 2 && left <= LIMB_MASK; i++) {
                if (digit <= LIMB_MASK && digit * next <= (left << LIMB_BITS | below)) {
                    break;
                }
                digit--;
                left += lead;
            }
            return (int) digit;
        }

        /** Takes digit times the divisor away; whether that was more than there is. */
        private boolean subtractAt(int place, long digit) {
            int size = divisor.count;
            long borrow = 0;
            for (int i = 0; i < size; i++) {
                long difference = rest.limbs[place + i] - digit * divisor.limbs[i] + borrow;
                rest.limbs[place + i] = (int) difference & LIMB_MASK;
                borrow = difference >> LIMB_BITS;
            }
            long top = rest.limbs[place + size] + borrow;
            rest.limbs[place + size] = (int) top & LIMB_MASK;
            return top < 0;
        }

        private void addBackAt(int place) {
            int size = divisor.count;
            int carry = 0;
            for (int i = 0; i < size; i++) {
                int sum = rest.limbs[place + i] + divisor.limbs[i] + carry;
                rest.limbs[place + i] = sum & LIMB_MASK;
                carry = sum >>> LIMB_BITS;
            }
            rest.limbs[place + size] = rest.limbs[place + size] + carry & LIMB_MASK;
        }
    }

    /** Euclid's greatest common divisor, with Lehmer's way of taking many steps at once. */
    private static final class Euclid {
        // A step takes at least a bit off the two numbers together.
        private static final int MOST_ROUNDS = 2 * MOST_BITS + 2;
        private static final int HEAD_BITS = 2 * LIMB_BITS;
        private static final int MOST_STEPS = 2 * HEAD_BITS;

        private Natural greater = new Natural();
        private Natural lesser = new Natural();
        // Some steps in one: greater becomes a greater + b lesser, and lesser c greater + d lesser.
        private long a;
        private long b;
        private long c;
        private long d;

        Natural commonDivisor(Natural x, Natural y, LongDivision division) {
            boolean ordered = x.order(y) >= 0;
            greater.take(ordered ? x : y);
            lesser.take(ordered ? y : x);
            for (int round = 0; round < MOST_ROUNDS && !lesser.isZero(); round++) {
                if (foreseeSteps()) {
                    takeForeseenSteps();
                } else {
                    takeStep(division);
                }
            }
            return greater;
        }

        private void takeStep(LongDivision division) {
            division.split(greater, lesser);
            Natural free = greater;
            greater = lesser;
            lesser = free;
            lesser.take(division.rest);
        }

        /**
         * Takes steps on the highest 60 bits alone, as long as their quotients are sure whatever the bits below are;
         * none of a, b, c, d then grows beyond 30 bits. Whether there was such a step.
         */
        private boolean foreseeSteps() {
            int from = Math.max(greater.bitLength() - HEAD_BITS, 0);
            long x = headFrom(greater, from);
            long y = headFrom(lesser, from);
            a = 1;
            b = 0;
            c = 0;
            d = 1;
            for (int step = 0; step < MOST_STEPS && y + c > 0 && y + d > 0; step++) {
                long quotient = (x + a) / (y + c);
                if (quotient != (x + b) / (y + d)) {
                    break;
                }
                long nextC = a - quotient * c;
                long nextD = b - quotient * d;
                long nextY = x - quotient * y;
                a = c;
                b = d;
                x = y;
                c = nextC;
                d = nextD;
                y = nextY;
            }
            return b != 0;
        }

        private static long headFrom(Natural number, int from) {
            return (long) number.limbFrom(from + LIMB_BITS) << LIMB_BITS | number.limbFrom(from);
        }

        private void takeForeseenSteps() {
            int size = greater.count;
            lesser.padTo(size);
            long first = 0;
            long second = 0;
            for (int i = 0; i < size; i++) {
                long x = greater.limbs[i];
                long y = lesser.limbs[i];
                first += a * x + b * y;
                second += c * x + d * y;
                greater.limbs[i] = (int) first & LIMB_MASK;
                lesser.limbs[i] = (int) second & LIMB_MASK;
                first >>= LIMB_BITS;
                second >>= LIMB_BITS;
            }
            greater.trim(size);
            lesser.trim(size);
        }
    }

    /** The text of characters, and numbers told in it. */
    private static final class Text {
        final char[] letters = new char[MOST_LETTERS];
        int length;

        void append(char letter) {
            if (length < MOST_LETTERS) {
                letters[length] = letter;
                length++;
            }
        }

        /** Becomes the digits of a number, which is 0 after it. */
        void spell(Whole number, int base) {
            length = 0;
            appendDigitsBackwards(number.size, base);
            if (number.negative) {
                append('-');
            }
            reverse();
        }

        private void appendDigitsBackwards(Natural number, int base) {
            if (number.isZero()) {
                append('0');
            }
            if (base < LEAST_BASE) {
                return;
            }
            int digits = digitsInLimb(base);
            int scale = powerOf(base, digits);
            for (int round = 0; round < MOST_BITS && !number.isZero(); round++) {
                int piece = number.cutBy(scale);
                for (int i = 0; i < digits && (piece > 0 || !number.isZero()); i++) {
                    append(letterOf(piece % base));
                    piece /= base;
                }
            }
        }

        private void reverse() {
            for (int i = 0, j = length - 1; i < j; i++, j--) {
                char letter = letters[i];
                letters[i] = letters[j];
                letters[j] = letter;
            }
        }

        private int firstDigit() {
            return length > 0 && letters[0] == '-' ? 1 : 0;
        }

        boolean tellsNumber(int base) {
            int first = firstDigit();
            for (int i = first; i < length; i++) {
                int digit = digitOf(letters[i]);
                if (digit < 0 || digit >= base) {
                    return false;
                }
            }
            return length > first;
        }

        /** Makes number the one that the text tells, or, if that has too many bits, one that has too many as well. */
        void tell(Whole number, int base) {
            number.takeLong(0L);
            int digits = Math.max(digitsInLimb(base), 1);
            int first = firstDigit();
            for (int i = first; i < length && number.size.bitLength() <= MOST_BITS; i += digits) {
                int end = Math.min(i + digits, length);
                number.size.timesPlus(powerOf(base, end - i), pieceBetween(i, end, base));
            }
            number.takeSign(first == 1);
        }

        private int pieceBetween(int from, int end, int base) {
            int piece = 0;
            for (int i = from; i < end; i++) {
                piece = piece * base + digitOf(letters[i]);
            }
            return piece;
        }

        /** How many digits of a base a limb holds, whatever they are. */
        private static int digitsInLimb(int base) {
            int digits = 0;
            long scale = base;
            for (int i = 0; i < LIMB_BITS && scale <= LIMB_MASK; i++) {
                scale *= base;
                digits++;
            }
            return digits;
        }

        private static int powerOf(int base, int n) {
            int power = 1;
            for (int i = 0; i < n; i++) {
                power *= base;
            }
            return power;
        }

        private static char letterOf(int digit) {
            return (char) (digit < 10 ? '0' + digit : 'a' + digit - 10);
        }

        private static int digitOf(char letter) {
            if (letter >= '0' && letter <= '9') {
                return letter - '0';
            }
            if (letter >= 'a' && letter <= 'f') {
                return letter - 'a' + 10;
            }
            if (letter >= 'A' && letter <= 'F') {
                return letter - 'A' + 10;
            }
            return -1;
        }
    }
}
