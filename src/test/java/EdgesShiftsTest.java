import java.math.BigInteger;

/** The sentences of promises 10 and 11 that name a boundary. */
public final class EdgesShiftsTest {
    private static final BigInteger ONE = BigInteger.ONE;
    private static final BigInteger ZERO = BigInteger.ZERO;
    private static final int LEAST = Integer.MIN_VALUE;
    private static final int MOST = Integer.MAX_VALUE;
    /** Among them some at which a sum of bits, or of limbs, goes over the greatest int. */
    private static final int[] VERY_LARGE = {
        3841, 10_000, 65_536, 1 << 20, 1 << 27, 1 << 30, MOST - 3840, MOST - 96, MOST - 95, MOST - 64, MOST - 33, MOST - 32,
        MOST - 31, MOST - 30, MOST - 1, MOST};

    public static void main(String[] args) {
        upTimesPower();
        upLastRoom();
        upFull();
        upVeryFar();
        upOfZero();
        upBelowZero();
        downRoundedDown();
        downRoundedDownBelowZero();
        downBelowZeroCarries();
        downVeryFar();
        downBelowZeroShift();
        Check.end();
    }

    private static void up(BigInteger a, int n, int width, BigInteger due) {
        String what = a + " up by " + n;
        Scene s = new Scene(width, a, Check.big(-7));
        s.done(what, s.x.shl(1, 0, n), 1, due);
        Scene t = new Scene(width, a, Check.big(-7));
        t.done(what + ", to itself", t.x.shl(0, 0, n), 0, due);
    }

    private static void upFull(BigInteger a, int n, int width) {
        String what = a + " up by " + n;
        Scene s = new Scene(width, a, Check.big(-7));
        s.refused(what, s.x.shl(1, 0, n), IntFile.FULL);
        Scene t = new Scene(width, a, Check.big(-7));
        t.refused(what + ", to itself", t.x.shl(0, 0, n), IntFile.FULL);
    }

    private static void down(BigInteger a, int n, int width, BigInteger due) {
        String what = a + " down by " + n;
        Scene s = new Scene(width, a, Check.big(-7));
        s.done(what, s.x.shr(1, 0, n), 1, due);
        Scene t = new Scene(width, a, Check.big(-7));
        t.done(what + ", to itself", t.x.shr(0, 0, n), 0, due);
    }

    private static void upTimesPower() {
        Check.sentence("10: d becomes a times 2^n");
        BigInteger a = new BigInteger("123456789abcdef0fedcba987", 16);
        for (int n = 0; n <= 100; n++) {
            up(a, n, 7, a.multiply(Check.two(n)));
            up(a.negate(), n, 7, a.multiply(Check.two(n)).negate());
        }
        up(Check.most(3), 0, 3, Check.most(3));
        up(Check.most(3).negate(), 0, 3, Check.most(3).negate());
    }

    private static void upLastRoom() {
        Check.sentence("10: d becomes a times 2^n, at the last number that has ROOM");
        for (int width : new int[] {1, 2, 3, 119, 120}) {
            int bits = 32 * width;
            up(ONE, bits - 1, width, Check.two(bits - 1));
            up(ONE.negate(), bits - 1, width, Check.two(bits - 1).negate());
            for (int many : new int[] {2, 31, 32, bits - 1, bits}) {
                BigInteger ones = Check.two(many).subtract(ONE);
                up(ones, bits - many, width, ones.shiftLeft(bits - many));
                up(ones.negate(), bits - many, width, ones.shiftLeft(bits - many).negate());
            }
        }
    }

    private static void upFull() {
        Check.sentence("10: FULL, at the first number that has no ROOM");
        for (int width : new int[] {1, 2, 3, 119, 120}) {
            int bits = 32 * width;
            for (int many : new int[] {1, 2, 31, 32, bits - 1, bits}) {
                BigInteger ones = Check.two(many).subtract(ONE);
                for (int over : new int[] {1, 2, 31, 32, 33, 64}) {
                    upFull(ones, bits - many + over, width);
                    upFull(ones.negate(), bits - many + over, width);
                }
            }
        }
    }

    private static void upVeryFar() {
        Check.sentence("10: FULL, for very large n");
        for (int n : VERY_LARGE) {
            for (int width : new int[] {1, 3}) {
                for (BigInteger a : new BigInteger[] {ONE, BigInteger.TWO, Check.two(31), Check.most(width)}) {
                    upFull(a, n, width);
                    upFull(a.negate(), n, width);
                }
            }
            upFull(ONE, n, 120);
            upFull(Check.most(120).negate(), n, 120);
        }
    }

    private static void upOfZero() {
        Check.sentence("10: d becomes a times 2^n (0 has ROOM for every n)");
        for (int n : VERY_LARGE) {
            up(ZERO, n, 1, ZERO);
            up(ZERO, n, 120, ZERO);
        }
        for (int n = 0; n <= 100; n++) {
            up(ZERO, n, 3, ZERO);
        }
        Scene s = new Scene(3, Check.most(3), ZERO);
        s.done("0 up, over a long one", s.x.shl(0, 1, 5), 0, ZERO);
    }

    private static void upBelowZero() {
        Check.sentence("10: NO: n is below 0");
        for (int n : new int[] {-1, -2, -31, -32, -33, -3840, LEAST + 1, LEAST}) {
            Scene s = Scene.of(2, 12, 0, -12);
            s.refused("12 up by " + n, s.x.shl(1, 0, n), IntFile.NO);
            s.refused("0 up by " + n, s.x.shl(0, 1, n), IntFile.NO);
            s.refused("-12 up by " + n, s.x.shl(2, 2, n), IntFile.NO);
            s.refused("up by " + n + " to none", s.x.shl(3, 0, n), IntFile.BAD);
            s.refused("none up by " + n, s.x.shl(0, -1, n), IntFile.BAD);
            s.endsWithItsTape();
        }
        Scene s = Scene.of(1, 12, 0);
        s.refused("BAD before FULL", s.x.shl(2, 0, MOST), IntFile.BAD);
        s.refused("BAD, though 0 has room", s.x.shl(-1, 1, 1), IntFile.BAD);
        s.refused("BAD, by 0", s.x.shl(0, 2, 0), IntFile.BAD);
    }

    private static void downRoundedDown() {
        Check.sentence("11: d becomes a / 2^n, rounded down");
        BigInteger a = new BigInteger("fedcba9876543210fedcba987", 16);
        for (int n = 0; n <= 130; n++) {
            down(a, n, 4, a.divide(Check.two(n)));
        }
        down(ONE, 0, 1, ONE);
        down(ONE, 1, 1, ZERO);
        down(Check.big(3), 1, 1, ONE);
        down(Check.most(3), 0, 3, Check.most(3));
        down(Check.most(3), 95, 3, ONE);
        down(Check.most(3), 96, 3, ZERO);
        down(ZERO, 0, 1, ZERO);
        down(ZERO, 40, 1, ZERO);
    }

    /** What is below 0 and no multiple of 2^n goes away from 0: one less than what is cut. */
    private static void downRoundedDownBelowZero() {
        Check.sentence("11: rounded down (below 0, too)");
        down(ONE.negate(), 0, 1, ONE.negate());
        down(ONE.negate(), 1, 1, ONE.negate());
        down(Check.big(-2), 1, 1, ONE.negate());
        down(Check.big(-3), 1, 1, Check.big(-2));
        down(Check.big(-4), 1, 1, Check.big(-2));
        down(Check.big(-7), 2, 1, Check.big(-2));
        down(Check.big(-8), 2, 1, Check.big(-2));
        down(Check.big(-9), 2, 1, Check.big(-3));
        for (int n = 1; n <= 130; n++) {
            BigInteger power = Check.two(n);
            down(power.negate(), n, 5, ONE.negate());
            down(power.negate(), n - 1, 5, Check.big(-2));
            down(power.negate(), n + 1, 5, ONE.negate());
            down(power.add(ONE).negate(), n, 5, Check.big(-2));
            down(power.subtract(ONE).negate(), n, 5, ONE.negate());
            down(power.multiply(Check.big(5)).negate(), n, 5, Check.big(-5));
            down(power.multiply(Check.big(5)).add(ONE).negate(), n, 5, Check.big(-6));
            down(power.multiply(Check.big(5)).add(power.shiftRight(1)).negate(), n, 5, Check.big(-6));
        }
    }

    /** One away from 0 goes through limbs of ones, and may bring a limb more than what is cut has. */
    private static void downBelowZeroCarries() {
        Check.sentence("11: rounded down (below 0, too), through every limb");
        for (int width : new int[] {1, 2, 3, 4, 120}) {
            BigInteger most = Check.most(width).negate();
            down(most, 0, width, most);
            for (int n : new int[] {1, 2, 31, 32 * width - 1}) {
                down(most, n, width, Check.two(32 * width - n).negate());
            }
            if (width > 1) {
                down(most, 32, width, Check.two(32 * (width - 1)).negate());
                down(most, 33, width, Check.two(32 * width - 33).negate());
            }
            down(most, 32 * width, width, ONE.negate());
        }
    }

    private static void downVeryFar() {
        Check.sentence("11: d becomes a / 2^n, rounded down, for very large n");
        for (int n : VERY_LARGE) {
            for (int width : new int[] {1, 3}) {
                for (BigInteger a : new BigInteger[] {ONE, BigInteger.TWO, Check.two(31), Check.most(width)}) {
                    down(a, n, width, ZERO);
                    down(a.negate(), n, width, ONE.negate());
                }
            }
            down(ZERO, n, 1, ZERO);
            down(Check.most(120), n, 120, ZERO);
            down(Check.most(120).negate(), n, 120, ONE.negate());
        }
    }

    private static void downBelowZeroShift() {
        Check.sentence("11: NO: n is below 0");
        for (int n : new int[] {-1, -2, -31, -32, -33, -3840, LEAST + 1, LEAST}) {
            Scene s = Scene.of(2, 12, 0, -12);
            s.refused("12 down by " + n, s.x.shr(1, 0, n), IntFile.NO);
            s.refused("0 down by " + n, s.x.shr(0, 1, n), IntFile.NO);
            s.refused("-12 down by " + n, s.x.shr(2, 2, n), IntFile.NO);
            s.refused("down by " + n + " to none", s.x.shr(3, 0, n), IntFile.BAD);
            s.refused("none down by " + n, s.x.shr(0, -1, n), IntFile.BAD);
            s.endsWithItsTape();
        }
        Scene s = Scene.of(1, 12, 0);
        s.refused("BAD, very far", s.x.shr(2, 0, MOST), IntFile.BAD);
        s.refused("BAD, of 0", s.x.shr(-1, 1, 1), IntFile.BAD);
        s.refused("BAD, by 0", s.x.shr(0, 2, 0), IntFile.BAD);
    }
}
