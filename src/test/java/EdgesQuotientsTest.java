import java.math.BigInteger;

/** The sentences of promise 9 that name a boundary. */
public final class EdgesQuotientsTest {
    private static final BigInteger ONE = BigInteger.ONE;
    private static final BigInteger ZERO = BigInteger.ZERO;

    public static void main(String[] args) {
        cutTowardsZero();
        whatIsLeft();
        dividendSmaller();
        nothingLeft();
        widest();
        byZero();
        quotientAndRestAreOne();
        dividendAndDivisorMayBeNamed();
        none();
        Check.end();
    }

    private static void divides(BigInteger a, BigInteger b, BigInteger q, BigInteger m, int width) {
        IntFile x = new IntFile(4, width, 4);
        Check.load(x, 0, a);
        Check.load(x, 1, b);
        x.set(2, -77);
        x.set(3, 77);
        String what = a + " / " + b;
        Check.due(what, x.divMod(2, 3, 0, 1), 0);
        Check.holds(what + ", quotient", x, 2, q);
        Check.holds(what + ", rest", x, 3, m);
    }

    private static void divides(long a, long b, long q, long m) {
        divides(Check.big(a), Check.big(b), Check.big(q), Check.big(m), 2);
        // The same with longer numbers: the quotient stays, what is left grows.
        BigInteger scale = Check.two(64).add(ONE);
        divides(Check.big(a).multiply(scale), Check.big(b).multiply(scale), Check.big(q), Check.big(m).multiply(scale), 5);
    }

    private static void cutTowardsZero() {
        Check.sentence("9: q becomes a / b, cut towards 0");
        divides(7, 2, 3, 1);
        divides(-7, 2, -3, -1);
        divides(7, -2, -3, 1);
        divides(-7, -2, 3, -1);
        divides(1, 3, 0, 1);
        divides(2, -3, 0, 2);
        divides(-4294967297L, 4294967296L, -1, -1);
        divides(4294967295L, -2, -2147483647L, 1);
        divides(-4294967295L, 4294967294L, -1, -1);
    }

    private static void whatIsLeft() {
        Check.sentence("9: and m what is left: a less b times that");
        divides(8, 3, 2, 2);
        divides(-8, 3, -2, -2);
        divides(8, -3, -2, 2);
        divides(-8, -3, 2, -2);
        divides(-1, 4294967295L, 0, -1);
        divides(-8589934591L, 4294967296L, -1, -4294967295L);
        divides(Long.MAX_VALUE, -4294967295L, -2147483648L, 2147483647L);
    }

    private static void dividendSmaller() {
        Check.sentence("9: q becomes a / b, cut towards 0 (0, when b is the greater SIZE)");
        BigInteger less = Check.most(3).subtract(ONE);
        for (BigInteger a : new BigInteger[] {ONE, Check.most(1), Check.two(32), less}) {
            for (BigInteger b : new BigInteger[] {Check.most(3), Check.most(3).negate()}) {
                divides(a, b, ZERO, a, 3);
                divides(a.negate(), b, ZERO, a.negate(), 3);
            }
        }
        divides(0, 5, 0, 0);
        divides(0, -5, 0, 0);
        afterLonger();
    }

    /** A quotient that is 0, or has fewer limbs, after one that had the most. */
    private static void afterLonger() {
        IntFile x = new IntFile(4, 3, 4);
        Check.load(x, 0, Check.most(3));
        x.set(1, 1);
        Check.due("by 1", x.divMod(2, 3, 0, 1), 0);
        Check.holds("by 1", x, 2, Check.most(3));
        Check.due("1 by the greatest", x.divMod(2, 3, 1, 0), 0);
        Check.holds("1 by the greatest", x, 2, 0);
        Check.holds("1 by the greatest", x, 3, 1);
        Check.due("by 1 once more", x.divMod(2, 3, 0, 1), 0);
        Check.load(x, 1, Check.two(64).negate());
        Check.due("by -2^64", x.divMod(2, 3, 0, 1), 0);
        Check.holds("by -2^64", x, 2, Check.most(1).negate());
        Check.holds("by -2^64", x, 3, Check.most(2));
    }

    private static void nothingLeft() {
        Check.sentence("9: and m what is left (0, without a sign)");
        for (int limbs = 1; limbs <= 4; limbs++) {
            BigInteger b = Check.most(limbs);
            BigInteger q = Check.two(70).add(ONE);
            divides(b.multiply(q), b, q, ZERO, 8);
            divides(b.multiply(q).negate(), b, q.negate(), ZERO, 8);
            divides(b.multiply(q), b.negate(), q.negate(), ZERO, 8);
            divides(b.multiply(q).negate(), b.negate(), q, ZERO, 8);
            BigInteger last = b.subtract(ONE);
            divides(b.multiply(q).add(last), b, q, last, 8);
            divides(b.multiply(q).subtract(ONE), b, q.subtract(ONE), last, 8);
        }
    }

    private static void widest() {
        Check.sentence("9: q becomes a / b, of the greatest that has ROOM");
        for (int width : new int[] {1, 2, 3, 60, 120}) {
            BigInteger most = Check.most(width);
            for (BigInteger a : new BigInteger[] {most, most.negate()}) {
                divides(a, ONE, a, ZERO, width);
                divides(a, ONE.negate(), a.negate(), ZERO, width);
                divides(a, most, Check.big(a.signum()), ZERO, width);
                divides(a, most.negate(), Check.big(-a.signum()), ZERO, width);
                divides(a, most.subtract(ONE), Check.big(a.signum()), Check.big(a.signum()), width);
                divides(a, BigInteger.TWO, Check.two(32 * width - 1).subtract(ONE).multiply(Check.big(a.signum())),
                    Check.big(a.signum()), width);
            }
        }
    }

    private static void byZero() {
        Check.sentence("9: NO: b is 0");
        for (BigInteger a : new BigInteger[] {ZERO, ONE, ONE.negate(), Check.most(2), Check.most(2).negate()}) {
            Scene s = new Scene(2, a, ZERO, Check.big(5), Check.big(-5));
            s.refused(a + " / 0", s.x.divMod(2, 3, 0, 1), IntFile.NO);
            s.refused(a + " / 0 to itself", s.x.divMod(0, 1, 0, 1), IntFile.NO);
            s.refused(a + " / 0, the rest to itself", s.x.divMod(2, 0, 0, 1), IntFile.NO);
            s.refused("0 / 0", s.x.divMod(2, 3, 1, 1), IntFile.NO);
            s.endsWithItsTape();
        }
        Scene s = Scene.of(2, 9, -4, 0);
        s.done("a divisor that came to be 0", s.x.sub(1, 1, 1), 1, ZERO);
        s.refused("by it", s.x.divMod(0, 2, 0, 1), IntFile.NO);
    }

    private static void quotientAndRestAreOne() {
        Check.sentence("9: NO: .. or q and m are one");
        for (int r = 0; r < 3; r++) {
            Scene s = Scene.of(2, 9, -4, 6);
            s.refused("9 / -4 to " + r + " twice", s.x.divMod(r, r, 0, 1), IntFile.NO);
            s.refused("9 / 9 to " + r + " twice", s.x.divMod(r, r, 0, 0), IntFile.NO);
            s.endsWithItsTape();
            Scene t = Scene.of(2, 0, -4, 6);
            t.refused("-4 / 0 to " + r + " twice", t.x.divMod(r, r, 1, 0), IntFile.NO);
            t.refused("0 / -4 to " + r + " twice", t.x.divMod(r, r, 0, 1), IntFile.NO);
        }
    }

    private static void dividendAndDivisorMayBeNamed() {
        Check.sentence("9: Registers that are named may be one and the same");
        BigInteger a = Check.most(3).negate();
        BigInteger b = Check.two(33).subtract(ONE);
        for (int q = 0; q < 3; q++) {
            for (int m = 0; m < 3; m++) {
                if (q != m) {
                    IntFile x = new IntFile(3, 3, 4);
                    Check.load(x, 0, a);
                    Check.load(x, 1, b);
                    Check.due("divMod to " + q + " and " + m, x.divMod(q, m, 0, 1), 0);
                    Check.holds("quotient in " + q, x, q, a.divide(b));
                    Check.holds("rest in " + m, x, m, a.remainder(b));
                }
            }
        }
        Scene s = new Scene(3, a, BigInteger.TEN);
        Check.due("by itself", s.x.divMod(1, 0, 0, 0), 0);
        Check.holds("by itself", s.x, 1, 1);
        Check.holds("by itself", s.x, 0, 0);
    }

    private static void none() {
        Check.sentence("9: BAD before NO");
        for (int r : new int[] {-1, 3, Integer.MAX_VALUE, Integer.MIN_VALUE}) {
            Scene s = Scene.of(2, 9, 0, 6);
            s.refused("q is none, b is 0", s.x.divMod(r, 2, 0, 1), IntFile.BAD);
            s.refused("m is none, b is 0", s.x.divMod(2, r, 0, 1), IntFile.BAD);
            s.refused("a is none, b is 0", s.x.divMod(0, 2, r, 1), IntFile.BAD);
            s.refused("b is none, q and m are one", s.x.divMod(2, 2, 0, r), IntFile.BAD);
            s.refused("a is none, q and m are one", s.x.divMod(2, 2, r, 0), IntFile.BAD);
            s.refused("q and m are none, and one", s.x.divMod(r, r, 0, 2), IntFile.BAD);
            s.endsWithItsTape();
        }
    }
}
