import java.math.BigInteger;
import java.util.Random;

/** Promise 8. */
public final class MulTest {
    public static void main(String[] args) {
        long[] small = {0, 1, -1, 2, -3, 65535, 4294967295L, -4294967296L, 4294967297L};
        for (long a : small) {
            for (long b : small) {
                product(BigInteger.valueOf(a), BigInteger.valueOf(b), 2, 4);
            }
        }
        edgesOfRoom();
        longFactors();
        registersThatAreOne();
        wrongRegisters();
        Check.end();
    }

    private static void product(BigInteger a, BigInteger b, int width, int cut) {
        IntFile x = new IntFile(3, width, cut);
        Check.load(x, 0, a);
        Check.load(x, 1, b);
        x.set(2, 99);
        BigInteger due = a.multiply(b);
        boolean full = due.abs().bitLength() > 32 * width;
        String what = a + " * " + b + " (cut " + cut + ")";
        Check.due(what, x.mul(2, 0, 1), full ? IntFile.FULL : 0);
        Check.holds(what, x, 2, full ? BigInteger.valueOf(99) : due);
    }

    private static void edgesOfRoom() {
        BigInteger one = BigInteger.ONE;
        product(Check.two(48), Check.two(47), 3, 4);
        product(Check.two(48), Check.two(48), 3, 4);
        product(Check.two(48).subtract(one), Check.two(48).add(one).negate(), 3, 4);
        product(Check.two(96).subtract(one), one, 3, 4);
        product(Check.two(96).subtract(one), BigInteger.ZERO, 3, 4);
        product(Check.two(96).subtract(one), BigInteger.TWO, 3, 4);
        product(Check.two(3839), BigInteger.TWO, 120, 4);
        product(Check.two(1920).subtract(one), Check.two(1920).add(one), 120, 4);
        product(Check.two(1920), Check.two(1920), 120, 4);
    }

    private static void longFactors() {
        Random random = new Random(8);
        for (int round = 0; round < 400; round++) {
            int many = 1 + random.nextInt(60);
            BigInteger a = filled(random, many);
            BigInteger b = filled(random, round % 3 == 0 ? 1 + random.nextInt(60) : many);
            product(a, round % 5 == 0 ? b.negate() : b, 120, 4 + random.nextInt(20));
        }
    }

    private static BigInteger filled(Random random, int limbs) {
        // Limbs of ones bring the carries of the sums of halves.
        if (random.nextInt(3) == 0) {
            return Check.two(32 * limbs).subtract(BigInteger.ONE.shiftLeft(random.nextInt(32 * limbs)));
        }
        return new BigInteger(32 * limbs, random);
    }

    private static void registersThatAreOne() {
        IntFile x = new IntFile(2, 6, 4);
        BigInteger a = new BigInteger("-12345678901234567890");
        Check.load(x, 0, a);
        x.set(1, 10);
        Check.due("square to another", x.mul(1, 0, 0), 0);
        Check.holds("square to another", x, 1, a.pow(2));
        Check.due("square to itself", x.mul(0, 0, 0), 0);
        Check.holds("square to itself", x, 0, a.pow(2));
        x.set(1, -3);
        Check.due("to the second", x.mul(1, 0, 1), 0);
        Check.holds("to the second", x, 1, a.pow(2).multiply(BigInteger.valueOf(-3)));
    }

    private static void wrongRegisters() {
        IntFile x = new IntFile(2, 1, 4);
        x.push(0, -1);
        Check.due("mul to none", x.mul(2, 0, 0), IntFile.BAD);
        Check.due("mul of none", x.mul(0, -1, 0), IntFile.BAD);
        Check.due("mul of none, second", x.mul(0, 0, 2), IntFile.BAD);
        Check.due("mul without room", x.mul(1, 0, 0), IntFile.FULL);
        Check.holds("after BAD and FULL", x, 0, 0xFFFFFFFFL);
        Check.holds("after BAD and FULL", x, 1, 0);
    }
}
