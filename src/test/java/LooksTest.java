import java.math.BigInteger;

/** Promises 15 to 18: what is asked of a register, and that asking changes none. */
public final class LooksTest {
    private static final String[] VALUES = {
        "-79228162514264337593543950335", "-18446744073709551616", "-18446744073709551615", "-4294967296", "-4294967295",
        "-2147483648", "-2", "-1", "0", "1", "2", "2147483647", "2147483648", "4294967295", "4294967296",
        "18446744071562067968", "18446744073709551615", "18446744073709551616", "79228162514264337593543950335"};

    public static void main(String[] args) {
        for (String a : VALUES) {
            for (String b : VALUES) {
                compared(new BigInteger(a), new BigInteger(b));
            }
            signed(new BigInteger(a));
            measured(new BigInteger(a));
        }
        limbs();
        wrongRegisters();
        Check.end();
    }

    private static void compared(BigInteger a, BigInteger b) {
        IntFile x = new IntFile(2, 3, 4);
        Check.load(x, 0, a);
        Check.load(x, 1, b);
        Check.due("cmp of " + a + " and " + b, x.cmp(0, 1), a.compareTo(b));
        Check.due("cmp with itself", x.cmp(0, 0), 0);
        Check.holds("compared", x, 0, a);
        Check.holds("compared", x, 1, b);
    }

    private static void signed(BigInteger a) {
        IntFile x = new IntFile(1, 3, 4);
        Check.load(x, 0, a);
        Check.due("sign of " + a, x.sign(0), a.signum());
        Check.due("sign once more", x.sign(0), a.signum());
    }

    private static void measured(BigInteger a) {
        IntFile x = new IntFile(1, 3, 4);
        Check.load(x, 0, a);
        int bits = a.abs().bitLength();
        Check.due("limbs of " + a, x.length(0, 0), (bits + 31) / 32);
        Check.due("bits of " + a, x.length(0, 1), bits);
        for (int what : new int[] {-1, 2, 3, 2147483647, -2147483648}) {
            Check.due("length with what = " + what, x.length(0, what), IntFile.BAD);
        }
    }

    private static void limbs() {
        IntFile x = new IntFile(1, 4, 4);
        x.set(0, -1);
        x.push(0, 0);
        x.push(0, -5);
        Check.due("limb 0", x.limb(0, 0), -5);
        Check.due("limb 1", x.limb(0, 1), 0);
        Check.due("limb 2", x.limb(0, 2), 1);
        for (int i : new int[] {3, 4, 5, 120, 2147483647, -1, -2147483648}) {
            Check.due("limb " + i, x.limb(0, i), 0);
        }
        x.set(0, 9);
        Check.due("a limb that was there before", x.limb(0, 2), 0);
        x.set(0, 0);
        Check.due("limb of 0", x.limb(0, 0), 0);
    }

    private static void wrongRegisters() {
        IntFile x = new IntFile(2, 3, 4);
        x.set(0, 7);
        x.set(1, 7);
        for (int r : new int[] {-1, 2, 12, 2147483647, -2147483648}) {
            Check.due("cmp of none", x.cmp(r, 0), 2);
            Check.due("cmp with none", x.cmp(0, r), 2);
            Check.due("cmp of none with none", x.cmp(r, r), 2);
            Check.due("sign of none", x.sign(r), 2);
            Check.due("limbs of none", x.length(r, 0), IntFile.BAD);
            Check.due("bits of none", x.length(r, 1), IntFile.BAD);
            Check.due("limb of none", x.limb(r, 0), 0);
        }
    }
}
