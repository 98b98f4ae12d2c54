import java.math.BigInteger;

/** The document's words over BigInteger, against which the class is held. */
final class Model {
    private static final BigInteger LEAST_LONG = BigInteger.valueOf(Long.MIN_VALUE);
    private static final BigInteger GREATEST_LONG = BigInteger.valueOf(Long.MAX_VALUE);

    final BigInteger[] registers = new BigInteger[8];
    String text = "";

    Model() {
        java.util.Arrays.fill(registers, BigInteger.ZERO);
    }

    static boolean known(int... numbers) {
        for (int number : numbers) {
            if (number < 0 || number > 7) {
                return false;
            }
        }
        return true;
    }

    private int keep(int t, BigInteger value) {
        int bits = value.abs().bitLength();
        if (bits > 4096) {
            return -1;
        }
        registers[t] = value;
        return bits;
    }

    boolean load(int t, long v) {
        if (!known(t)) {
            return false;
        }
        registers[t] = BigInteger.valueOf(v);
        return true;
    }

    int reckon(int op, int t, int a, int b) {
        if (!known(t, a, b) || op < 0 || op > 2) {
            return -1;
        }
        BigInteger x = registers[a];
        BigInteger y = registers[b];
        return keep(t, op == 0 ? x.add(y) : op == 1 ? x.subtract(y) : x.multiply(y));
    }

    int divide(int q, int r, int a, int b, boolean floor) {
        if (!known(q, r, a, b) || q == r) {
            return -1;
        }
        BigInteger x = registers[a];
        BigInteger y = registers[b];
        BigInteger quotient = x.divide(y);
        if (floor && x.signum() * y.signum() < 0 && !quotient.multiply(y).equals(x)) {
            quotient = quotient.subtract(BigInteger.ONE);
        }
        keep(q, quotient);
        keep(r, x.subtract(y.multiply(quotient)));
        return quotient.abs().bitLength();
    }

    int gcd(int t, int a, int b) {
        return known(t, a, b) ? keep(t, registers[a].gcd(registers[b])) : -1;
    }

    int root(int t, int a) {
        if (!known(t, a)) {
            return -1;
        }
        if (registers[a].signum() < 0) {
            throw new IllegalArgumentException();
        }
        return keep(t, registers[a].sqrt());
    }

    int shift(int t, int a, int n) {
        if (!known(t, a) || n < -4096 || n > 4096) {
            return -1;
        }
        BigInteger scale = BigInteger.TWO.pow(Math.abs(n));
        return keep(t, n > 0 ? registers[a].multiply(scale) : registers[a].divide(scale));
    }

    int power(int t, int a, int n) {
        if (!known(t, a) || n < 0 || n > 4096) {
            return -1;
        }
        long leastBits = (registers[a].abs().bitLength() - 1L) * n + 1;
        return leastBits > 4096 ? -1 : keep(t, registers[a].pow(n));
    }

    int compare(int a, int b) {
        return known(a, b) ? registers[a].compareTo(registers[b]) : 2;
    }

    int sign(int a) {
        return known(a) ? registers[a].signum() : 2;
    }

    int bits(int a) {
        return known(a) ? registers[a].abs().bitLength() : -1;
    }

    int part(int a, int i) {
        return known(a) && i >= 0 ? registers[a].abs().shiftRight(i).intValue() & 0x3fffffff : -1;
    }

    boolean hasBelow(int a, int n) {
        if (!known(a) || n < 1) {
            return false;
        }
        int lowest = registers[a].getLowestSetBit();
        return lowest >= 0 && lowest < n;
    }

    boolean fits(int a) {
        return known(a) && registers[a].compareTo(LEAST_LONG) >= 0 && registers[a].compareTo(GREATEST_LONG) <= 0;
    }

    long low(int a) {
        return fits(a) ? registers[a].longValue() : 0;
    }

    int write(int a, int base) {
        if (!known(a) || base < 2 || base > 16) {
            return -1;
        }
        text = registers[a].toString(base);
        return text.length();
    }

    int type(int code) {
        if (code < 0 || code > 127 || text.length() >= 1300) {
            return -1;
        }
        text += (char) code;
        return text.length();
    }

    void clear() {
        text = "";
    }

    int character(int i) {
        return i >= 0 && i < text.length() ? text.charAt(i) : -1;
    }

    int read(int t, int base) {
        if (!known(t) || base < 2 || base > 16) {
            return -1;
        }
        String digits = "0123456789abcdef".substring(0, base);
        String great = digits.toUpperCase(java.util.Locale.ROOT);
        return text.matches("-?[" + digits + great + "]+") ? keep(t, new BigInteger(text, base)) : -1;
    }
}
