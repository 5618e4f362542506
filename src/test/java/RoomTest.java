import java.lang.management.ManagementFactory;
import java.math.BigInteger;

/** All calls of a run live in one room: the constructor makes what they need, and they make nothing. */
public final class RoomTest {
    private static final com.sun.management.ThreadMXBean THREADS =
        (com.sun.management.ThreadMXBean) ManagementFactory.getThreadMXBean();
    private static final long MOST_BYTES_OF_OBJECT = 40_000;

    public static void main(String[] args) {
        // Once without a look, so that what the machine makes for itself at first is not counted.
        run(false);
        run(true);
        Check.end();
    }

    private static void run(boolean counted) {
        long start = made();
        IntFile x = new IntFile(12, 120, 4);
        long built = made() - start;
        Check.load(x, 0, Check.two(1900).subtract(BigInteger.TEN));
        Check.load(x, 1, Check.two(1911).subtract(BigInteger.ONE));
        long before = made();
        calls(x);
        long after = made();
        if (counted) {
            Check.due("bytes that calls make", after - before, 0);
            Check.due("a new object of " + built + " bytes is small", built <= MOST_BYTES_OF_OBJECT ? 1 : 0, 1);
        }
    }

    private static long made() {
        return THREADS.getThreadAllocatedBytes(Thread.currentThread().getId());
    }

    private static void calls(IntFile x) {
        x.set(2, 77);
        x.push(2, 5);
        x.mul(3, 0, 1);
        x.add(4, 3, 0);
        x.sub(4, 4, 1);
        x.copy(5, 4);
        x.neg(5);
        x.divMod(6, 7, 4, 1);
        x.shl(8, 2, 3000);
        x.shr(8, 5, 70);
        x.gcd(9, 4, 0);
        x.powMod(9, 5, 2, 3);
        x.root(10, 4);
        x.cmp(10, 9);
        x.sign(4);
        x.length(4, 1);
        x.limb(4, 7);
        x.write(5);
        x.written(3);
        x.type(0x3132333435363738L, 8);
        x.read(11);
        x.read(12);
        x.read(11);
    }
}
