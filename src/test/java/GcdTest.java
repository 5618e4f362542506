import java.math.BigInteger;
import java.util.Random;

/** Promise 12. */
public final class GcdTest {
    public static void main(String[] args) {
        long[] small = {0, 1, -1, 2, -6, 9, 12, -18, 2147483648L, 4294967296L, -6442450944L, 1L << 62};
        for (long a : small) {
            for (long b : small) {
                divisor(BigInteger.valueOf(a), BigInteger.valueOf(b), 2);
            }
        }
        withCommonFactor();
        mostSteps();
        registersThatAreOne();
        refused();
        Check.end();
    }

    private static void divisor(BigInteger a, BigInteger b, int width) {
        IntFile x = new IntFile(3, width, 4);
        Check.load(x, 0, a);
        Check.load(x, 1, b);
        x.set(2, -7);
        String what = "gcd of " + a + " and " + b;
        Check.due(what, x.gcd(2, 0, 1), 0);
        Check.holds(what, x, 2, a.gcd(b));
        Check.due("a stays", x.sign(0), a.signum());
        Check.due("b stays", x.sign(1), b.signum());
    }

    private static void withCommonFactor() {
        Random random = new Random(12);
        for (int round = 0; round < 60; round++) {
            BigInteger common = new BigInteger(1 + random.nextInt(1900), random);
            BigInteger a = common.multiply(new BigInteger(1 + random.nextInt(1900), random));
            BigInteger b = common.multiply(new BigInteger(1 + random.nextInt(1900), random));
            divisor(round % 3 == 0 ? a.negate() : a, round % 4 == 0 ? b.negate() : b, 120);
        }
        BigInteger most = Check.two(3840).subtract(BigInteger.ONE);
        divisor(most, BigInteger.ZERO, 120);
        divisor(BigInteger.ZERO, most.negate(), 120);
        divisor(most.negate(), most, 120);
    }

    /** Neighbours among Fibonacci's numbers need the most steps. */
    private static void mostSteps() {
        BigInteger a = BigInteger.ONE;
        BigInteger b = BigInteger.ONE;
        while (a.add(b).bitLength() <= 3840) {
            BigInteger next = a.add(b);
            a = b;
            b = next;
        }
        divisor(b, a, 120);
        divisor(a, b, 120);
    }

    private static void registersThatAreOne() {
        IntFile x = new IntFile(2, 4, 4);
        x.set(0, -12);
        x.set(1, 18);
        Check.due("to the first", x.gcd(0, 0, 1), 0);
        Check.holds("to the first", x, 0, 6);
        Check.due("to the second", x.gcd(1, 0, 1), 0);
        Check.holds("to the second", x, 1, 6);
        x.set(0, -4);
        Check.due("with itself", x.gcd(0, 0, 0), 0);
        Check.holds("with itself", x, 0, 4);
    }

    private static void refused() {
        IntFile x = new IntFile(2, 4, 4);
        x.set(0, -12);
        Check.due("to none", x.gcd(2, 0, 1), IntFile.BAD);
        Check.due("of none", x.gcd(0, -1, 1), IntFile.BAD);
        Check.due("of none, second", x.gcd(0, 1, 2), IntFile.BAD);
        Check.holds("refused", x, 0, -12);
        Check.holds("refused", x, 1, 0);
    }
}
