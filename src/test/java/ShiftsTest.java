import java.math.BigInteger;

/** Promises 10 and 11. */
public final class ShiftsTest {
    private static final String[] VALUES = {
        "0", "1", "-1", "2", "-2", "3", "-3", "4294967295", "-4294967295", "-4294967296", "12345678901234567890",
        "-12345678901234567890", "-18446744073709551616", "79228162514264337593543950335", "-79228162514264337593543950335",
        "-39614081257132168796771975168"};
    private static final int[] BY = {
        0, 1, 2, 5, 31, 32, 33, 62, 63, 64, 65, 94, 95, 96, 97, 128, 1000, 3840, 2147483616, 2147483646, 2147483647};

    public static void main(String[] args) {
        for (String value : VALUES) {
            for (int n : BY) {
                up(new BigInteger(value), n);
                down(new BigInteger(value), n);
            }
        }
        longest();
        refused();
        Check.end();
    }

    private static void up(BigInteger a, int n) {
        boolean full = a.signum() != 0 && (long) a.abs().bitLength() + n > 96;
        BigInteger due = a.signum() == 0 || full ? BigInteger.ZERO : a.shiftLeft(n);
        String what = a + " up by " + n;
        IntFile x = new IntFile(2, 3, 4);
        Check.load(x, 0, a);
        x.set(1, 77);
        Check.due(what, x.shl(1, 0, n), full ? IntFile.FULL : 0);
        Check.holds(what, x, 1, full ? BigInteger.valueOf(77) : due);
        Check.holds("what was shifted", x, 0, a);
        Check.due(what + " to itself", x.shl(0, 0, n), full ? IntFile.FULL : 0);
        Check.holds(what + " to itself", x, 0, full ? a : due);
    }

    private static void down(BigInteger a, int n) {
        BigInteger due = n > 200 ? BigInteger.valueOf(a.signum() < 0 ? -1 : 0) : a.shiftRight(n);
        String what = a + " down by " + n;
        IntFile x = new IntFile(2, 3, 4);
        Check.load(x, 0, a);
        x.set(1, 77);
        Check.due(what, x.shr(1, 0, n), 0);
        Check.holds(what, x, 1, due);
        Check.holds("what was shifted", x, 0, a);
        Check.due(what + " to itself", x.shr(0, 0, n), 0);
        Check.holds(what + " to itself", x, 0, due);
    }

    private static void longest() {
        IntFile x = new IntFile(1, 120, 4);
        x.set(0, -1);
        Check.due("up to the end", x.shl(0, 0, 3839), 0);
        Check.holds("up to the end", x, 0, Check.two(3839).negate());
        Check.due("over the end", x.shl(0, 0, 1), IntFile.FULL);
        Check.due("down", x.shr(0, 0, 3838), 0);
        Check.holds("down", x, 0, -2);
    }

    private static void refused() {
        IntFile x = new IntFile(2, 3, 4);
        x.set(0, 5);
        for (int n : new int[] {-1, -32, -2147483648}) {
            Check.due("up by " + n, x.shl(1, 0, n), IntFile.NO);
            Check.due("down by " + n, x.shr(1, 0, n), IntFile.NO);
            Check.due("0 up by " + n, x.shl(0, 1, n), IntFile.NO);
            Check.due("up to none", x.shl(2, 0, n), IntFile.BAD);
            Check.due("up of none", x.shl(0, -1, n), IntFile.BAD);
            Check.due("down to none", x.shr(-1, 0, n), IntFile.BAD);
            Check.due("down of none", x.shr(0, 2, n), IntFile.BAD);
        }
        Check.due("BAD before FULL", x.shl(2, 0, 2147483647), IntFile.BAD);
        Check.due("down to none", x.shr(2, 0, 1), IntFile.BAD);
        Check.holds("refused", x, 0, 5);
        Check.holds("refused", x, 1, 0);
    }
}
