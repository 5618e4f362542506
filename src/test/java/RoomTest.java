import java.lang.management.ManagementFactory;
import java.math.BigInteger;

/** All calls of one run live in one room: what an object and its 512 calls make must fit there. */
public final class RoomTest {
    private static final com.sun.management.ThreadMXBean THREADS =
        (com.sun.management.ThreadMXBean) ManagementFactory.getThreadMXBean();
    private static final int MOST_CALLS = 512;
    private static final int CALLS_BEFORE = 130;
    private static final int CALLS_OF_EACH = 18;
    /** The room has 7.3 million fields and elements: of 4 bytes, if all of them were ints. */
    private static final long MOST_BYTES = 4L * 7_300_000;

    private interface Calls {
        void on(IntFile x);
    }

    public static void main(String[] args) {
        // Once without a look, so that what the machine makes for itself at first is not counted.
        made(RoomTest::each, CALLS_OF_EACH);
        fits("calls of all kinds", RoomTest::each, CALLS_OF_EACH);
        fits("mul", x -> x.mul(3, 0, 1), 1);
        fits("divMod", x -> x.divMod(3, 4, 2, 1), 1);
        fits("gcd", x -> x.gcd(5, 2, 0), 1);
        fits("powMod", x -> x.powMod(6, 1, 7, 2), 1);
        fits("root", x -> x.root(8, 2), 1);
        fits("write", x -> x.write(2), 1);
        Check.end();
    }

    private static void fits(String what, Calls calls, int callsOfRound) {
        long bytes = made(calls, callsOfRound);
        Check.due(what + ": " + bytes + " bytes have room", bytes <= MOST_BYTES ? 1 : 0, 1);
    }

    /** Factors of 60 limbs, their product, and an exponent of two limbs are there before. */
    private static long made(Calls calls, int callsOfRound) {
        BigInteger a = Check.two(1900).subtract(BigInteger.TEN);
        BigInteger b = Check.two(1911).subtract(BigInteger.ONE);
        long start = madeSoFar();
        IntFile x = new IntFile(12, 120, 4);
        long built = madeSoFar() - start;
        Check.load(x, 0, a);
        Check.load(x, 1, b);
        Check.load(x, 7, Check.two(64).subtract(BigInteger.ONE));
        x.mul(2, 0, 1);
        long before = madeSoFar();
        for (int call = CALLS_BEFORE; call + callsOfRound <= MOST_CALLS; call += callsOfRound) {
            calls.on(x);
        }
        return built + madeSoFar() - before;
    }

    private static long madeSoFar() {
        return THREADS.getThreadAllocatedBytes(Thread.currentThread().getId());
    }

    private static void each(IntFile x) {
        x.set(3, 77);
        x.push(3, 5);
        x.add(4, 3, 0);
        x.sub(4, 4, 1);
        x.copy(5, 4);
        x.neg(5);
        x.shl(8, 3, 3000);
        x.shr(8, 5, 70);
        x.cmp(10, 9);
        x.sign(4);
        x.length(4, 1);
        x.limb(4, 7);
        x.write(5);
        x.written(3);
        x.type(0x3132333435363738L, 8);
        x.read(11);
        x.read(12);
        x.read(11);
    }
}
