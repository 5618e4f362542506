import java.math.BigInteger;

/** Promises 6 and 7. */
public final class SumsTest {
    private static final String[] VALUES = {
        "0", "1", "-1", "4294967295", "-4294967295", "4294967296", "-4294967296", "18446744073709551615",
        "-18446744073709551615", "18446744073709551616", "-79228162514264337593543950334", "79228162514264337593543950335",
        "-79228162514264337593543950335", "39614081257132168796771975168", "-39614081257132168796771975168"};

    public static void main(String[] args) {
        for (String a : VALUES) {
            for (String b : VALUES) {
                apart(new BigInteger(a), new BigInteger(b));
                asOne(new BigInteger(a), new BigInteger(b));
            }
        }
        wrongRegisters();
        Check.end();
    }

    private static void apart(BigInteger a, BigInteger b) {
        IntFile x = new IntFile(3, 3, 4);
        Check.load(x, 0, a);
        Check.load(x, 1, b);
        BigInteger third = outcome(a + " + " + b, x, x.add(2, 0, 1), 2, a.add(b), BigInteger.ZERO);
        outcome(a + " - " + b, x, x.sub(2, 0, 1), 2, a.subtract(b), third);
        Check.holds("first summand", x, 0, a);
        Check.holds("second summand", x, 1, b);
    }

    private static void asOne(BigInteger a, BigInteger b) {
        IntFile x = new IntFile(2, 3, 4);
        Check.load(x, 0, a);
        Check.load(x, 1, b);
        a = outcome("to the first summand", x, x.add(0, 0, 1), 0, a.add(b), a);
        b = outcome("to the second", x, x.add(1, 0, 1), 1, a.add(b), b);
        a = outcome("less the second", x, x.sub(0, 0, 1), 0, a.subtract(b), a);
        b = outcome("less, to the second", x, x.sub(1, 0, 1), 1, a.subtract(b), b);
        a = outcome("doubled", x, x.add(0, 0, 0), 0, a.add(a), a);
        outcome("less itself", x, x.sub(0, 0, 0), 0, BigInteger.ZERO, a);
    }

    private static BigInteger outcome(String what, IntFile x, int answer, int d, BigInteger due, BigInteger before) {
        boolean full = due.abs().bitLength() > 96;
        Check.due(what, answer, full ? IntFile.FULL : 0);
        Check.holds(what, x, d, full ? before : due);
        return full ? before : due;
    }

    private static void wrongRegisters() {
        IntFile x = new IntFile(2, 1, 4);
        x.set(0, -1);
        x.push(1, -1);
        Check.due("add to none", x.add(2, 0, 0), IntFile.BAD);
        Check.due("add of none", x.add(0, -1, 0), IntFile.BAD);
        Check.due("add of none, second", x.add(0, 0, 2), IntFile.BAD);
        Check.due("BAD before FULL", x.add(2, 1, 1), IntFile.BAD);
        Check.due("sub to none", x.sub(-1, 0, 0), IntFile.BAD);
        Check.due("sub of none", x.sub(0, 2, 0), IntFile.BAD);
        Check.due("sub of none, second", x.sub(0, 0, -1), IntFile.BAD);
        Check.due("BAD before FULL", x.sub(2, 0, 1), IntFile.BAD);
        Check.due("sub without room", x.sub(0, 0, 1), IntFile.FULL);
        Check.holds("after BAD", x, 0, -1);
        Check.holds("after BAD", x, 1, 0xFFFFFFFFL);
    }
}
