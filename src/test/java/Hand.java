import java.math.BigInteger;

/** What a test does to an object by hand, and how it looks at one, by the calls of the face alone. */
final class Hand {
    private static final int PIECE = 60;

    private Hand() {
    }

    /** Makes register t a number of any size, by the registers 6 and 7. */
    static void put(WholeNumbers x, int t, BigInteger value) {
        BigInteger size = value.abs();
        x.load(6, 0);
        for (int i = (size.bitLength() + PIECE - 1) / PIECE - 1; i >= 0; i--) {
            x.load(7, size.shiftRight(PIECE * i).longValue() & (1L << PIECE) - 1);
            x.shift(6, 6, PIECE);
            x.reckon(0, 6, 6, 7);
        }
        x.load(7, value.signum());
        x.reckon(2, t, 6, 7);
    }

    /** Makes register t 2^4096 - 1, by register other, in few calls. */
    static void greatest(WholeNumbers x, int t, int other) {
        x.load(t, 1);
        x.shift(other, t, 4095);
        x.reckon(1, t, other, t);
        x.reckon(0, t, t, other);
    }

    static BigInteger get(WholeNumbers x, int t) {
        BigInteger value = BigInteger.ZERO;
        for (int i = (x.bits(t) + 29) / 30 - 1; i >= 0; i--) {
            value = value.shiftLeft(30).or(BigInteger.valueOf(x.part(t, 30 * i)));
        }
        return x.sign(t) < 0 ? value.negate() : value;
    }

    static void type(WholeNumbers x, String letters) {
        x.clear();
        for (int i = 0; i < letters.length(); i++) {
            x.type(letters.charAt(i));
        }
    }

    static String text(WholeNumbers x) {
        StringBuilder letters = new StringBuilder();
        for (int code = x.character(0); code >= 0; code = x.character(letters.length())) {
            letters.append((char) code);
        }
        return letters.toString();
    }

    /** All registers and the text. */
    static String state(WholeNumbers x) {
        StringBuilder state = new StringBuilder();
        for (int a = 0; a < 8; a++) {
            state.append(get(x, a).toString(16)).append(", ");
        }
        return state.append(text(x)).toString();
    }
}
