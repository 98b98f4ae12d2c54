import com.sun.management.ThreadMXBean;
import java.lang.management.ManagementFactory;

/** All calls of a run live in one room: a new object takes a bounded share of it, and the calls on it take none. */
public final class RoomTest {
    private static final ThreadMXBean THREADS = (ThreadMXBean) ManagementFactory.getThreadMXBean();
    private static final long OBJECT_BYTES = 32 * 1024;
    // What the measuring itself may take.
    private static final long SPARE_BYTES = 4 * 1024;

    public static void main(String[] args) {
        Check check = new Check();
        new WholeNumbers().write(0, 10);
        dearCalls(new WholeNumbers());
        long start = THREADS.getCurrentThreadAllocatedBytes();
        WholeNumbers numbers = new WholeNumbers();
        long made = THREADS.getCurrentThreadAllocatedBytes();
        dearCalls(numbers);
        long called = THREADS.getCurrentThreadAllocatedBytes();
        check.due("a new object stays within " + OBJECT_BYTES + " bytes", made - start <= OBJECT_BYTES, true);
        check.due("its calls stay within " + SPARE_BYTES + " bytes", called - made <= SPARE_BYTES, true);
        check.end("RoomTest");
    }

    private static void dearCalls(WholeNumbers numbers) {
        numbers.load(0, 3);
        numbers.load(1, -7);
        numbers.power(0, 0, 2580);
        numbers.power(1, 1, 1457);
        for (int round = 0; round < 40; round++) {
            numbers.gcd(2, 0, 1);
            numbers.root(2, 0);
            numbers.divide(2, 3, 0, 1, true);
            numbers.reckon(2, 2, 3, 3);
            numbers.reckon(round % 2, 2, 0, 1);
            numbers.write(1, 10);
            numbers.read(4, 10);
            numbers.shift(5, 4, -round);
            numbers.compare(4, 5);
            numbers.hasBelow(4, 4096);
        }
    }
}
