import java.math.BigInteger;

/** The sentences of promises 12 to 14 that name a boundary: divisors, powers and roots. */
public final class EdgesPowersTest {
    private static final BigInteger ONE = BigInteger.ONE;
    private static final BigInteger TWO = BigInteger.TWO;
    private static final BigInteger ZERO = BigInteger.ZERO;
    private static final int[] NONE = {-1, 3, Integer.MAX_VALUE, Integer.MIN_VALUE};

    public static void main(String[] args) {
        divisorOfTwoZeros();
        divisorWithOneZero();
        divisorIsAboveZero();
        divisorIsTheGreatest();
        divisorRefused();
        powerFromZeroOn();
        powerLessThanM();
        powerOfExponentZero();
        powerModuloOne();
        powerWithTwoLimbs();
        powerMZeroOrLess();
        powerExponentBelowZero();
        powerExponentTooLong();
        powerRefused();
        rootNotAbove();
        rootOfTheGreatest();
        rootBelowZero();
        rootRefused();
        Check.end();
    }

    private static void divisor(BigInteger a, BigInteger b, int width, BigInteger due) {
        String what = "gcd of " + a + " and " + b;
        Scene s = new Scene(width, a, b, Check.big(-7));
        s.done(what, s.x.gcd(2, 0, 1), 2, due);
        Scene t = new Scene(width, a, b);
        t.done(what + ", to the first", t.x.gcd(0, 0, 1), 0, due);
        Scene u = new Scene(width, a, b);
        u.done(what + ", to the second", u.x.gcd(1, 1, 0), 1, due);
    }

    private static void allSigns(BigInteger a, BigInteger b, int width, BigInteger due) {
        divisor(a, b, width, due);
        divisor(a.negate(), b, width, due);
        divisor(a, b.negate(), width, due);
        divisor(a.negate(), b.negate(), width, due);
    }

    private static void divisorOfTwoZeros() {
        Check.sentence("12: (0 for two zeros)");
        divisor(ZERO, ZERO, 1, ZERO);
        divisor(ZERO, ZERO, 120, ZERO);
        Scene s = Scene.of(3, -5, 0);
        s.done("gcd of 0 and itself", s.x.gcd(0, 1, 1), 0, ZERO);
        s.done("to itself", s.x.gcd(1, 1, 1), 1, ZERO);
    }

    private static void divisorWithOneZero() {
        Check.sentence("12: d becomes the greatest number that divides a and b (one is 0)");
        for (int width : new int[] {1, 2, 3, 119}) {
            for (BigInteger a : new BigInteger[] {ONE, Check.big(6), Check.most(1), Check.two(31), Check.most(width)}) {
                allSigns(a, ZERO, width, a);
                allSigns(ZERO, a, width, a);
            }
        }
    }

    private static void divisorIsAboveZero() {
        Check.sentence("12: d becomes the greatest number that divides a and b (of any sign)");
        allSigns(Check.big(12), Check.big(18), 1, Check.big(6));
        allSigns(Check.big(6), Check.big(3), 1, Check.big(3));
        allSigns(Check.big(3), Check.big(6), 1, Check.big(3));
        allSigns(Check.two(95), Check.two(64), 3, Check.two(64));
        allSigns(Check.most(3), Check.most(3), 3, Check.most(3));
        Scene s = new Scene(3, Check.most(3).negate(), ONE);
        s.done("with itself", s.x.gcd(1, 0, 0), 1, Check.most(3));
        s.done("with itself, to itself", s.x.gcd(0, 0, 0), 0, Check.most(3));
    }

    private static void divisorIsTheGreatest() {
        Check.sentence("12: d becomes the greatest number that divides a and b");
        allSigns(Check.most(3), Check.most(2), 3, Check.most(1));
        allSigns(Check.most(6), Check.most(4), 6, Check.most(2));
        allSigns(Check.most(5), Check.most(3), 5, Check.most(1));
        allSigns(Check.most(3), Check.most(3).subtract(ONE), 3, ONE);
        allSigns(Check.two(97).subtract(TWO), Check.two(65).subtract(TWO), 4, Check.two(33).subtract(TWO));
        allSigns(Check.two(95), Check.most(3), 3, ONE);
        allSigns(Check.most(3), ONE, 3, ONE);
    }

    private static void divisorRefused() {
        Check.sentence("12: BAD");
        for (int r : NONE) {
            Scene s = Scene.of(1, -12, 0, 18);
            s.refused("gcd to none", s.x.gcd(r, 0, 2), IntFile.BAD);
            s.refused("gcd of none", s.x.gcd(0, r, 2), IntFile.BAD);
            s.refused("gcd with none", s.x.gcd(0, 2, r), IntFile.BAD);
            s.refused("gcd of 0 with none", s.x.gcd(0, 1, r), IntFile.BAD);
            s.endsWithItsTape();
        }
    }

    private static void power(BigInteger a, BigInteger e, BigInteger m, int width, BigInteger due) {
        String what = a + " to the power of " + e + " modulo " + m;
        Scene s = new Scene(width, a, e, m, Check.big(-7));
        s.done(what, s.x.powMod(3, 0, 1, 2), 3, due);
        for (int d = 0; d < 3; d++) {
            Scene t = new Scene(width, a, e, m);
            t.done(what + " to " + d, t.x.powMod(d, 0, 1, 2), d, due);
        }
    }

    private static void power(long a, long e, long m, long due) {
        power(Check.big(a), Check.big(e), Check.big(m), 2, Check.big(due));
    }

    private static void powerFromZeroOn() {
        Check.sentence("13: modulo m: the least number from 0 on");
        power(-1, 1, 7, 6);
        power(-1, 2, 7, 1);
        power(-1, 3, 2, 1);
        power(-7, 1, 7, 0);
        power(-7, 3, 7, 0);
        power(-8, 1, 7, 6);
        power(-6, 1, 7, 1);
        power(-2, 3, 5, 2);
        power(-3, 3, 100, 73);
        power(-4294967296L, 1, 4294967295L, 4294967294L);
        power(-4294967295L, 1, 4294967296L, 1);
        power(Check.most(3).negate(), ONE, Check.most(3), 3, ZERO);
        power(Check.most(3).subtract(ONE).negate(), ONE, Check.most(3), 3, ONE);
        power(ONE.negate(), ONE, Check.most(3), 3, Check.most(3).subtract(ONE));
        power(ONE.negate(), ONE, Check.most(100), 100, Check.most(100).subtract(ONE));
    }

    private static void powerLessThanM() {
        Check.sentence("13: d becomes a to the power of e, modulo m: the least number");
        power(7, 1, 7, 0);
        power(6, 1, 7, 6);
        power(8, 1, 7, 1);
        power(0, 1, 7, 0);
        power(0, 5, 7, 0);
        power(3, 1, 2, 1);
        power(2, 10, 1024, 0);
        power(2, 10, 1025, 1024);
        power(2, 10, 1023, 1);
        power(2, 31, 4294967296L, 2147483648L);
        power(2, 32, 4294967296L, 0);
        power(2, 32, 4294967297L, 4294967296L);
        // A product may have twice the limbs that have room, before it is reduced.
        for (int width : new int[] {1, 2, 3, 4, 9, 60}) {
            BigInteger most = Check.most(width);
            BigInteger less = most.subtract(ONE);
            power(most, ONE, most, width, ZERO);
            power(most, TWO, less, width, ONE);
            power(less, TWO, most, width, ONE);
            power(less, Check.big(3), most, width, less);
            power(less, Check.most(1), most, width, less);
        }
    }

    private static void powerOfExponentZero() {
        Check.sentence("13: a to the power of e (e is 0)");
        power(5, 0, 7, 1);
        power(-5, 0, 7, 1);
        power(7, 0, 7, 1);
        power(1, 0, 2, 1);
        power(0, 0, 7, 1);
        power(Check.most(3).negate(), ZERO, Check.most(3), 3, ONE);
    }

    private static void powerModuloOne() {
        Check.sentence("13: modulo m: the least number from 0 on (m is 1)");
        for (long a : new long[] {0, 1, -1, 5, -4294967297L}) {
            for (long e : new long[] {0, 1, 2, 4294967296L}) {
                power(a, e, 1, 0);
            }
        }
    }

    private static void powerWithTwoLimbs() {
        Check.sentence("13: e .. has more than two limbs (two are not too many)");
        BigInteger most = Check.most(2);
        power(TWO, most, Check.big(7), 2, ONE);
        power(TWO, most.subtract(ONE), Check.big(7), 2, Check.big(4));
        power(TWO, Check.two(32), Check.big(7), 2, Check.big(2));
        power(TWO, Check.two(63), Check.big(7), 2, Check.big(4));
        power(TWO, Check.most(1), Check.big(7), 2, ONE);
        power(ONE.negate(), most, most, 2, most.subtract(ONE));
        power(ONE.negate(), Check.two(63), most, 2, ONE);
        BigInteger a = Check.two(90).add(Check.big(12345));
        BigInteger m = Check.most(3).subtract(Check.big(16));
        for (BigInteger e : new BigInteger[] {most, Check.two(63), Check.two(32), Check.two(33).subtract(ONE)}) {
            power(a, e, m, 3, a.modPow(e, m));
            power(a.negate(), e, m, 3, a.negate().modPow(e, m));
        }
    }

    private static void powerNo(String what, BigInteger a, BigInteger e, BigInteger m, int width) {
        Scene s = new Scene(width, a, e, m, Check.big(-7));
        for (int d = 0; d < 4; d++) {
            s.refused(what + ", to " + d, s.x.powMod(d, 0, 1, 2), IntFile.NO);
        }
        s.endsWithItsTape();
    }

    private static void powerMZeroOrLess() {
        Check.sentence("13: NO: m is 0 or less");
        for (BigInteger m : new BigInteger[] {ZERO, ONE.negate(), Check.big(-7), Check.two(32).negate(), Check.most(3).negate()}) {
            powerNo("m = " + m, Check.big(5), Check.big(3), m, 3);
            powerNo("m = " + m + ", e = 0", Check.big(5), ZERO, m, 3);
            powerNo("m = " + m + ", a = 0", ZERO, ONE, m, 3);
        }
    }

    private static void powerExponentBelowZero() {
        Check.sentence("13: NO: .. e is below 0");
        for (BigInteger e : new BigInteger[] {ONE.negate(), Check.two(32).negate(), Check.most(2).negate(), Check.most(3).negate()}) {
            powerNo("e = " + e, Check.big(5), e, Check.big(7), 3);
            powerNo("e = " + e + ", m = 1", ONE, e, ONE, 3);
        }
    }

    private static void powerExponentTooLong() {
        Check.sentence("13: NO: .. e .. has more than two limbs");
        for (BigInteger e : new BigInteger[] {Check.two(64), Check.two(64).add(ONE), Check.most(3), Check.most(4)}) {
            powerNo("e = " + e, Check.big(5), e, Check.big(7), 4);
            powerNo("e = " + e + ", m = 1", ONE, e, ONE, 4);
        }
    }

    private static void powerRefused() {
        Check.sentence("13: BAD before NO");
        for (int r : NONE) {
            Scene s = Scene.of(2, 5, -1, 0);
            s.refused("d is none, e below 0, m 0", s.x.powMod(r, 0, 1, 2), IntFile.BAD);
            s.refused("a is none, e below 0, m 0", s.x.powMod(0, r, 1, 2), IntFile.BAD);
            s.refused("e is none, m 0", s.x.powMod(0, 0, r, 2), IntFile.BAD);
            s.refused("m is none, e below 0", s.x.powMod(0, 0, 1, r), IntFile.BAD);
            s.refused("d is none", s.x.powMod(r, 0, 0, 0), IntFile.BAD);
            s.refused("a is none", s.x.powMod(0, r, 0, 0), IntFile.BAD);
            s.endsWithItsTape();
        }
    }

    private static void root(BigInteger a, int width, BigInteger due) {
        Scene s = new Scene(width, a, Check.big(-7));
        s.done("root of " + a, s.x.root(1, 0), 1, due);
        Scene t = new Scene(width, a, Check.big(-7));
        t.done("root of " + a + ", to itself", t.x.root(0, 0), 0, due);
    }

    /** At n * n - 1, n * n, and (n + 1) * (n + 1) - 1. */
    private static void rootNotAbove() {
        Check.sentence("14: d becomes the greatest number whose square is not above a");
        root(ZERO, 1, ZERO);
        rootOfZeroAfterAnother();
        for (int n = 1; n <= 300; n++) {
            around(Check.big(n), 1);
        }
        for (BigInteger n : new BigInteger[] {Check.big(65535), Check.big(46340), Check.big(46341), Check.two(15)}) {
            around(n, 1);
        }
        for (int bits = 17; bits <= 130; bits++) {
            around(Check.two(bits), 9);
            around(Check.two(bits).subtract(ONE), 9);
            around(Check.two(bits).add(ONE), 9);
            around(Check.two(bits).multiply(Check.big(3)).add(Check.big(5)), 9);
        }
    }

    private static void rootOfZeroAfterAnother() {
        Scene s = new Scene(3, Check.most(3), ZERO, ONE);
        s.done("root of the greatest", s.x.root(2, 0), 2, Check.two(48).subtract(ONE));
        s.done("root of 0 after it", s.x.root(2, 1), 2, ZERO);
    }

    private static void around(BigInteger n, int width) {
        root(n.multiply(n).subtract(ONE), width, n.subtract(ONE));
        root(n.multiply(n), width, n);
        root(n.multiply(n).add(n.shiftLeft(1)), width, n);
    }

    private static void rootOfTheGreatest() {
        Check.sentence("14: d becomes the greatest number whose square is not above a (the greatest that has ROOM)");
        for (int width = 1; width <= 120; width++) {
            BigInteger half = Check.two(16 * width);
            root(Check.most(width), width, half.subtract(ONE));
            root(half.subtract(ONE).pow(2), width, half.subtract(ONE));
            root(half.subtract(ONE).pow(2).subtract(ONE), width, half.subtract(TWO));
        }
    }

    private static void rootBelowZero() {
        Check.sentence("14: NO: a is below 0");
        for (BigInteger a : new BigInteger[] {ONE, Check.big(4), Check.two(31), Check.two(32), Check.most(3)}) {
            Scene s = new Scene(3, a.negate(), Check.big(9));
            s.refused("root of -" + a, s.x.root(1, 0), IntFile.NO);
            s.refused("root of -" + a + ", to itself", s.x.root(0, 0), IntFile.NO);
            s.endsWithItsTape();
        }
    }

    private static void rootRefused() {
        Check.sentence("14: BAD before NO");
        for (int r : NONE) {
            Scene s = Scene.of(1, -9, 9);
            s.refused("root of below 0 to none", s.x.root(r, 0), IntFile.BAD);
            s.refused("root to none", s.x.root(r, 1), IntFile.BAD);
            s.refused("root of none", s.x.root(0, r), IntFile.BAD);
            s.endsWithItsTape();
        }
    }
}
