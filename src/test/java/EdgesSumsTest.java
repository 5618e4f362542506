import java.math.BigInteger;

/** The sentences of promises 6 to 8 that name a boundary: FULL, at the last number that has ROOM and the first that has none. */
public final class EdgesSumsTest {
    private static final BigInteger ONE = BigInteger.ONE;
    private static final BigInteger ZERO = BigInteger.ZERO;
    private static final int[] WIDTHS = {1, 2, 3, 4, 7, 8, 60, 119, 120};

    private interface Op {
        int on(IntFile x, int d, int a, int b);
    }

    public static void main(String[] args) {
        for (int width : WIDTHS) {
            lastSums(width);
            firstSumsTooGreat(width);
            lastDifferences(width);
            firstDifferencesTooGreat(width);
            lastProducts(width);
            firstProductsTooGreat(width);
        }
        for (int width = 1; width <= 20; width++) {
            productsOfPowers(width);
        }
        carries();
        Check.end();
    }

    private static BigInteger[] sides() {
        return new BigInteger[] {ONE, ONE.negate()};
    }

    private static void lastSums(int width) {
        Check.sentence("6: d becomes a + b, at the last number that has ROOM");
        BigInteger most = Check.most(width);
        BigInteger half = Check.two(32 * width - 1);
        fitsOnBothSides(IntFile::add, width, most.subtract(ONE), ONE, most);
        fitsOnBothSides(IntFile::add, width, ONE, most.subtract(ONE), most);
        fitsOnBothSides(IntFile::add, width, most, ZERO, most);
        fitsOnBothSides(IntFile::add, width, ZERO, most, most);
        fitsOnBothSides(IntFile::add, width, half, half.subtract(ONE), most);
        fitsOnBothSides(IntFile::add, width, most, ONE.negate(), most.subtract(ONE));
        fitsOnBothSides(IntFile::add, width, ONE.negate(), most, most.subtract(ONE));
        fitsOnBothSides(IntFile::add, width, most, most.negate(), ZERO);
    }

    private static void firstSumsTooGreat(int width) {
        Check.sentence("6: FULL, at the first number that has no ROOM");
        BigInteger most = Check.most(width);
        BigInteger half = Check.two(32 * width - 1);
        fullOnBothSides(IntFile::add, width, most, ONE);
        fullOnBothSides(IntFile::add, width, ONE, most);
        fullOnBothSides(IntFile::add, width, half, half);
        fullOnBothSides(IntFile::add, width, half.add(ONE), half.subtract(ONE));
        fullOnBothSides(IntFile::add, width, most, most);
    }

    private static void lastDifferences(int width) {
        Check.sentence("7: d becomes a - b, at the last number that has ROOM");
        BigInteger most = Check.most(width);
        BigInteger half = Check.two(32 * width - 1);
        fitsOnBothSides(IntFile::sub, width, most.subtract(ONE), ONE.negate(), most);
        fitsOnBothSides(IntFile::sub, width, ONE, most.subtract(ONE).negate(), most);
        fitsOnBothSides(IntFile::sub, width, most, ZERO, most);
        fitsOnBothSides(IntFile::sub, width, ZERO, most, most.negate());
        fitsOnBothSides(IntFile::sub, width, half, half.subtract(ONE).negate(), most);
        fitsOnBothSides(IntFile::sub, width, most, ONE, most.subtract(ONE));
        fitsOnBothSides(IntFile::sub, width, ONE, most, most.subtract(ONE).negate());
        fitsOnBothSides(IntFile::sub, width, most, most, ZERO);
    }

    private static void firstDifferencesTooGreat(int width) {
        Check.sentence("7: FULL, at the first number that has no ROOM");
        BigInteger most = Check.most(width);
        BigInteger half = Check.two(32 * width - 1);
        fullOnBothSides(IntFile::sub, width, most, ONE.negate());
        fullOnBothSides(IntFile::sub, width, ONE, most.negate());
        fullOnBothSides(IntFile::sub, width, half, half.negate());
        fullOnBothSides(IntFile::sub, width, half.add(ONE), half.subtract(ONE).negate());
        fullOnBothSides(IntFile::sub, width, most, most.negate());
    }

    private static void lastProducts(int width) {
        Check.sentence("8: d becomes a times b, at the last number that has ROOM");
        BigInteger most = Check.most(width);
        for (BigInteger side : sides()) {
            fits(IntFile::mul, width, most, side, most.multiply(side));
            fits(IntFile::mul, width, side, most, most.multiply(side));
            fits(IntFile::mul, width, most.multiply(side), ZERO, ZERO);
            fits(IntFile::mul, width, ZERO, most.multiply(side), ZERO);
            for (long factor : new long[] {3, 5, 17, 257, 65535, 65537, 4294967295L}) {
                // All of them divide 2^32 - 1, and so every 2^(32 n) - 1.
                BigInteger other = most.divide(Check.big(factor)).multiply(side);
                fits(IntFile::mul, width, other, Check.big(factor), most.multiply(side));
                fits(IntFile::mul, width, Check.big(-factor), other, most.multiply(side).negate());
            }
            if (width % 2 == 0) {
                BigInteger middle = Check.two(16 * width);
                fits(IntFile::mul, width, middle.subtract(ONE), middle.add(ONE).multiply(side), most.multiply(side));
            }
        }
    }

    private static void firstProductsTooGreat(int width) {
        Check.sentence("8: FULL, at the first number that has no ROOM");
        BigInteger most = Check.most(width);
        for (BigInteger side : sides()) {
            full(IntFile::mul, width, Check.two(32 * width - 1), BigInteger.TWO.multiply(side));
            full(IntFile::mul, width, most, BigInteger.TWO.multiply(side));
            full(IntFile::mul, width, BigInteger.TWO.multiply(side), most.negate());
            full(IntFile::mul, width, most, most.multiply(side));
            for (long factor : new long[] {3, 5, 17, 257, 65535, 65537, 4294967295L}) {
                BigInteger other = most.divide(Check.big(factor)).add(ONE).multiply(side);
                full(IntFile::mul, width, other, Check.big(factor));
                full(IntFile::mul, width, Check.big(-factor), other);
            }
        }
    }

    /** Of so many limbs each that the product has the width, or one limb more, or two. */
    private static void productsOfPowers(int width) {
        Check.sentence("8: d becomes a times b, and FULL, for powers of 2");
        int bits = 32 * width;
        for (int p = 0; p < bits; p += 8) {
            fits(IntFile::mul, width, Check.two(p), Check.two(bits - 1 - p).negate(), Check.two(bits - 1).negate());
            if (p > 0) {
                full(IntFile::mul, width, Check.two(p), Check.two(bits - p).negate());
            }
        }
    }

    /** A carry, or a borrow, goes through all limbs. */
    private static void carries() {
        Check.sentence("6, 7: d becomes a + b, a - b, through every limb");
        for (int limbs = 1; limbs <= 8; limbs++) {
            BigInteger ones = Check.most(limbs);
            BigInteger power = Check.two(32 * limbs);
            fitsOnBothSides(IntFile::add, 9, ones, ONE, power);
            fitsOnBothSides(IntFile::add, 9, ONE, ones, power);
            fitsOnBothSides(IntFile::add, 9, power, ONE.negate(), ones);
            fitsOnBothSides(IntFile::sub, 9, power, ONE, ones);
            fitsOnBothSides(IntFile::sub, 9, ONE, power, ones.negate());
            fitsOnBothSides(IntFile::sub, 9, ones, ONE.negate(), power);
            fitsOnBothSides(IntFile::sub, 9, power, ones, ONE);
            fitsOnBothSides(IntFile::sub, 9, ones, power, ONE.negate());
        }
    }

    private static void fitsOnBothSides(Op op, int width, BigInteger a, BigInteger b, BigInteger due) {
        fits(op, width, a, b, due);
        fits(op, width, a.negate(), b.negate(), due.negate());
    }

    private static void fullOnBothSides(Op op, int width, BigInteger a, BigInteger b) {
        full(op, width, a, b);
        full(op, width, a.negate(), b.negate());
    }

    /** To a register of its own, to the first, and to the second. */
    private static void fits(Op op, int width, BigInteger a, BigInteger b, BigInteger due) {
        String what = "of " + a + " and " + b;
        Scene s = new Scene(width, a, b, Check.big(-7));
        s.done(what, op.on(s.x, 2, 0, 1), 2, due);
        Scene t = new Scene(width, a, b);
        t.done(what + ", to the first", op.on(t.x, 0, 0, 1), 0, due);
        Scene u = new Scene(width, a, b);
        u.done(what + ", to the second", op.on(u.x, 1, 0, 1), 1, due);
    }

    private static void full(Op op, int width, BigInteger a, BigInteger b) {
        for (int d = 0; d < 3; d++) {
            Scene s = new Scene(width, a, b, Check.big(-7));
            s.refused("of " + a + " and " + b + ", to " + d, op.on(s.x, d, 0, 1), IntFile.FULL);
        }
    }
}
