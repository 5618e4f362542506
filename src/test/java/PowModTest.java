import java.math.BigInteger;
import java.util.Random;

/** Promise 13. */
public final class PowModTest {
    public static void main(String[] args) {
        long[] bases = {0, 1, -1, 2, -7, 10, 4294967296L, -4294967295L};
        long[] exponents = {0, 1, 2, 3, 13, 4294967295L, 4294967296L, Long.MAX_VALUE};
        long[] moduli = {1, 2, 3, 10, 13, 65536, 4294967291L, 4294967296L, 1L << 62};
        for (long base : bases) {
            for (long e : exponents) {
                for (long m : moduli) {
                    power(BigInteger.valueOf(base), BigInteger.valueOf(e), BigInteger.valueOf(m), 4);
                }
            }
        }
        longNumbers();
        registersThatAreOne();
        refused();
        Check.end();
    }

    private static void power(BigInteger a, BigInteger e, BigInteger m, int width) {
        IntFile x = new IntFile(4, width, 4);
        Check.load(x, 0, a);
        Check.load(x, 1, e);
        Check.load(x, 2, m);
        x.set(3, -5);
        String what = a + " to the power of " + e + " modulo " + m;
        Check.due(what, x.powMod(3, 0, 1, 2), 0);
        Check.holds(what, x, 3, a.modPow(e, m));
    }

    private static void longNumbers() {
        BigInteger mostExponent = Check.two(64).subtract(BigInteger.ONE);
        BigInteger most = Check.two(3840).subtract(BigInteger.ONE);
        power(most.subtract(BigInteger.TEN), mostExponent, most, 120);
        power(most.negate(), mostExponent, most.subtract(BigInteger.ONE), 120);
        power(most, mostExponent, BigInteger.TEN, 120);
        power(BigInteger.TEN, Check.two(63), most, 120);
        Random random = new Random(13);
        for (int round = 0; round < 40; round++) {
            BigInteger a = new BigInteger(1 + random.nextInt(3840), random);
            BigInteger m = new BigInteger(1 + random.nextInt(3840), random).setBit(0);
            BigInteger e = new BigInteger(1 + random.nextInt(64), random);
            power(round % 2 == 0 ? a : a.negate(), e, m, 120);
        }
    }

    private static void registersThatAreOne() {
        for (int d = 0; d < 3; d++) {
            IntFile x = new IntFile(3, 2, 4);
            x.set(0, -5);
            x.set(1, 123);
            x.set(2, 1000003);
            Check.due("powMod to " + d, x.powMod(d, 0, 1, 2), 0);
            Check.holds("powMod to " + d, x, d, BigInteger.valueOf(-5).modPow(BigInteger.valueOf(123), BigInteger.valueOf(1000003)));
        }
        IntFile x = new IntFile(1, 2, 4);
        x.set(0, 12);
        Check.due("all one", x.powMod(0, 0, 0, 0), 0);
        Check.holds("all one", x, 0, 0);
    }

    private static void refused() {
        IntFile x = new IntFile(5, 3, 4);
        x.set(0, 3);
        x.set(1, -1);
        Check.load(x, 2, Check.two(64));
        Check.load(x, 3, Check.two(64).subtract(BigInteger.ONE));
        Check.due("modulo 0", x.powMod(0, 0, 0, 4), IntFile.NO);
        Check.due("modulo below 0", x.powMod(0, 0, 0, 1), IntFile.NO);
        Check.due("exponent below 0", x.powMod(0, 0, 1, 0), IntFile.NO);
        Check.due("exponent of three limbs", x.powMod(0, 0, 2, 0), IntFile.NO);
        Check.due("both below 0", x.powMod(0, 0, 1, 1), IntFile.NO);
        Check.due("no such d", x.powMod(5, 0, 1, 4), IntFile.BAD);
        Check.due("no such a", x.powMod(0, -1, 1, 4), IntFile.BAD);
        Check.due("no such e", x.powMod(0, 0, 5, 4), IntFile.BAD);
        Check.due("no such m", x.powMod(0, 0, 2, -1), IntFile.BAD);
        Check.holds("refused", x, 0, 3);
        Check.due("exponent of two limbs", x.powMod(0, 0, 3, 2), 0);
        Check.holds("exponent of two limbs", x, 0, BigInteger.valueOf(3).modPow(Check.two(64).subtract(BigInteger.ONE), Check.two(64)));
    }
}
