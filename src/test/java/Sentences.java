import java.math.BigInteger;
import java.util.function.Supplier;

/**
 * Tests by sentences: each begins with the words of the document that it holds the class to. No object in them is used
 * for more than the 512 calls that the document promises.
 */
abstract class Sentences {
    static final BigInteger ONE = BigInteger.ONE;
    static final BigInteger TWO = BigInteger.TWO;
    static final BigInteger GREATEST = TWO.pow(4096).subtract(ONE);
    static final int[] NO_REGISTERS = {-1, 8, Integer.MIN_VALUE, Integer.MAX_VALUE};
    static final int[] NO_BASES = {1, 17, 0, -1, -10, 18, 36, 256 + 10, Integer.MIN_VALUE, Integer.MAX_VALUE};

    private final Check check;
    private final Document document;
    private String words;

    Sentences(Check check, Document document) {
        this.check = check;
        this.document = document;
    }

    /** A call on an object. */
    interface Call {
        Object on(WholeNumbers x);
    }

    abstract void run();

    void sentence(int promise, String newWords) {
        words = "promise " + promise + ", \"" + newWords + "\"";
        document.tell(promise, newWords);
    }

    void due(String call, Object got, Object want) {
        check.due(words + ": " + call, got, want);
    }

    static WholeNumbers with(long... values) {
        WholeNumbers x = new WholeNumbers();
        for (int i = 0; i < values.length; i++) {
            x.load(i, values[i]);
        }
        return x;
    }

    static WholeNumbers withText(String letters) {
        WholeNumbers x = with(77, 77);
        Hand.type(x, letters);
        return x;
    }

    /** An object in which every register but one has a number of its own, and the text tells one in every base. */
    static WholeNumbers busy() {
        WholeNumbers x = with(0, 1, 0, -1, -7, 1, 77);
        Hand.greatest(x, 0, 7);
        x.reckon(1, 7, 2, 0);
        x.shift(5, 5, 2048);
        Hand.type(x, "-101");
        return x;
    }

    static Object answer(WholeNumbers x, Call call) {
        return Check.answer(() -> call.on(x));
    }

    /** The call gives the answer that is due, and neither a register nor the text is another one behind it. */
    void unchanged(String name, Object want, Supplier<WholeNumbers> made, Call call) {
        WholeNumbers x = made.get();
        due(name, answer(x, call), want);
        due("the registers and the text behind " + name, Hand.state(x), Hand.state(made.get()));
    }

    void unchanged(String name, Object want, Call call) {
        unchanged(name, want, Sentences::busy, call);
    }

    /** The call on registers that are loaded with values gives the bits of a number, which is then in register t. */
    void becomes(String name, BigInteger want, int t, WholeNumbers x, Call call) {
        due(name, answer(x, call), want.abs().bitLength());
        due("the number of " + name, Hand.get(x, t), want);
    }

    void becomes(String name, long want, int t, WholeNumbers x, Call call) {
        becomes(name, BigInteger.valueOf(want), t, x, call);
    }
}
