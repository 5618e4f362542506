import java.math.BigInteger;
import java.util.Random;

/** Promise 9. */
public final class DivModTest {
    private static final long[] HARD_LIMBS = {0, 1, 2, 0x7FFFFFFFL, 0x80000000L, 0x80000001L, 0xFFFFFFFEL, 0xFFFFFFFFL};

    public static void main(String[] args) {
        for (long a : new long[] {0, 1, 6, 7, 8, 4294967295L, 4294967296L, 1L << 62}) {
            for (long b : new long[] {1, 2, 3, 7, 8, 65536, 2147483648L, 4294967295L, 4294967296L, 4294967297L}) {
                allSigns(BigInteger.valueOf(a), BigInteger.valueOf(b));
            }
        }
        knownCorrections();
        hardLimbs();
        longest();
        registersThatAreOne();
        refused();
        Check.end();
    }

    private static void allSigns(BigInteger a, BigInteger b) {
        quotient(a, b, 8);
        quotient(a.negate(), b, 8);
        quotient(a, b.negate(), 8);
        quotient(a.negate(), b.negate(), 8);
    }

    private static void quotient(BigInteger a, BigInteger b, int width) {
        IntFile x = new IntFile(4, width, 4);
        Check.load(x, 0, a);
        Check.load(x, 1, b);
        x.set(2, 5);
        x.set(3, -5);
        String what = a + " / " + b;
        Check.due(what, x.divMod(2, 3, 0, 1), 0);
        Check.holds(what, x, 2, a.divide(b));
        Check.holds(what, x, 3, a.remainder(b));
        Check.due("the dividend stays", x.length(0, 1), a.abs().bitLength());
        Check.due("the divisor stays", x.length(1, 1), b.abs().bitLength());
    }

    /** Pairs at which a first guess of a digit is too great, and one at which it must be given back. */
    private static void knownCorrections() {
        String[][] pairs = {
            {"7fffffff800000000000000000000000", "800000000000000000000001"},
            {"80000000fffffffe00000000", "80000000ffffffff"},
            {"800000000000000000000003", "200000000000000000000001"},
            {"80000000000000000000000000000003", "20000000000000000000000000000001"},
            {"7fffffff800000010000000000000000", "800000008000000200000005"},
            {"80000000000000000000fffe00000000", "80000000000000000000ffff"},
            {"ffffffffffffffffffffffffffffffff", "ffffffffffffffff"},
            {"fffffffffffffffe0000000000000000", "ffffffffffffffff"}};
        for (String[] pair : pairs) {
            allSigns(new BigInteger(pair[0], 16), new BigInteger(pair[1], 16));
        }
    }

    private static void hardLimbs() {
        Random random = new Random(9);
        for (int round = 0; round < 20_000; round++) {
            BigInteger b = hard(random, 1 + random.nextInt(4));
            if (b.signum() != 0) {
                quotient(hard(random, 1 + random.nextInt(8)), b, 8);
            }
        }
    }

    private static BigInteger hard(Random random, int many) {
        BigInteger value = BigInteger.ZERO;
        for (int i = 0; i < many; i++) {
            long limb = HARD_LIMBS[random.nextInt(HARD_LIMBS.length)];
            value = value.shiftLeft(32).add(BigInteger.valueOf(limb));
        }
        return random.nextBoolean() ? value : value.negate();
    }

    private static void longest() {
        BigInteger most = Check.two(3840).subtract(BigInteger.ONE);
        quotient(most, BigInteger.ONE, 120);
        quotient(most, BigInteger.ONE.negate(), 120);
        quotient(most, most, 120);
        quotient(most, Check.two(1920).subtract(BigInteger.TEN), 120);
        quotient(most.subtract(BigInteger.ONE), most.negate(), 120);
    }

    private static void registersThatAreOne() {
        BigInteger a = new BigInteger("-123456789012345678901234567890");
        BigInteger b = new BigInteger("9876543210987654321");
        for (int q = 0; q < 3; q++) {
            for (int m = 0; m < 3; m++) {
                if (q != m) {
                    IntFile x = new IntFile(3, 4, 4);
                    Check.load(x, 0, a);
                    Check.load(x, 1, b);
                    Check.due("divMod " + q + " " + m, x.divMod(q, m, 0, 1), 0);
                    Check.holds("quotient " + q + " " + m, x, q, a.divide(b));
                    Check.holds("rest " + q + " " + m, x, m, a.remainder(b));
                }
            }
        }
        IntFile x = new IntFile(2, 4, 4);
        Check.load(x, 0, a);
        Check.due("by itself", x.divMod(0, 1, 0, 0), 0);
        Check.holds("by itself", x, 0, 1);
        Check.holds("by itself", x, 1, 0);
    }

    private static void refused() {
        IntFile x = new IntFile(3, 4, 4);
        x.set(0, 7);
        x.set(1, 2);
        Check.due("by 0", x.divMod(0, 1, 0, 2), IntFile.NO);
        Check.due("0 by 0", x.divMod(0, 1, 2, 2), IntFile.NO);
        Check.due("quotient and rest are one", x.divMod(2, 2, 0, 1), IntFile.NO);
        Check.due("no such q", x.divMod(3, 1, 0, 2), IntFile.BAD);
        Check.due("no such m", x.divMod(0, -1, 0, 2), IntFile.BAD);
        Check.due("no such a", x.divMod(0, 0, 3, 2), IntFile.BAD);
        Check.due("no such b", x.divMod(0, 0, 0, 3), IntFile.BAD);
        Check.due("neither q nor m", x.divMod(3, 3, 0, 1), IntFile.BAD);
        Check.holds("refused", x, 0, 7);
        Check.holds("refused", x, 1, 2);
        Check.holds("refused", x, 2, 0);
    }
}
