import java.math.BigInteger;
import java.util.Random;

/** Promise 14. */
public final class RootTest {
    public static void main(String[] args) {
        for (int a = 0; a < 300; a++) {
            root(BigInteger.valueOf(a), 1);
        }
        for (int power = 1; power <= 240; power++) {
            aroundSquareOf(Check.two(power), 16);
            aroundSquareOf(Check.two(power).subtract(BigInteger.ONE), 16);
        }
        Random random = new Random(14);
        for (int round = 0; round < 200; round++) {
            aroundSquareOf(new BigInteger(1 + random.nextInt(1920), random), 120);
            root(new BigInteger(1 + random.nextInt(3840), random), 120);
        }
        for (int width = 1; width <= 120; width++) {
            root(Check.two(32 * width).subtract(BigInteger.ONE), width);
        }
        refused();
        Check.end();
    }

    private static void aroundSquareOf(BigInteger side, int width) {
        BigInteger square = side.multiply(side);
        root(square, width);
        root(square.add(BigInteger.ONE), width);
        if (square.signum() > 0) {
            root(square.subtract(BigInteger.ONE), width);
        }
    }

    private static void root(BigInteger a, int width) {
        IntFile x = new IntFile(2, width, 4);
        Check.load(x, 0, a);
        x.set(1, -9);
        Check.due("root of " + a, x.root(1, 0), 0);
        Check.holds("root of " + a, x, 1, a.sqrt());
        Check.due("a stays", x.length(0, 1), a.bitLength());
        Check.due("root of " + a + " to itself", x.root(0, 0), 0);
        Check.due("to itself", x.cmp(0, 1), 0);
    }

    private static void refused() {
        IntFile x = new IntFile(2, 2, 4);
        x.set(0, -1);
        x.set(1, 8);
        Check.due("root of -1", x.root(1, 0), IntFile.NO);
        Check.due("root of -1 to itself", x.root(0, 0), IntFile.NO);
        Check.due("root to none", x.root(2, 0), IntFile.BAD);
        Check.due("root of none", x.root(0, -1), IntFile.BAD);
        Check.holds("refused", x, 0, -1);
        Check.holds("refused", x, 1, 8);
    }
}
