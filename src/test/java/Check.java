import java.math.BigInteger;

/** What the tests share: they count the answers that are not due, and move numbers to and from registers. */
final class Check {
    private static int wrong = 0;
    private static String sentence = "";

    private Check() {
    }

    /** From here on answers that are not due are told with the sentence of the document that they break. */
    static void sentence(String words) {
        sentence = "[" + words + "] ";
    }

    static void due(String call, long got, long want) {
        if (got != want) {
            wrong++;
            System.out.println(sentence + call + " answered " + got + ", due is " + want);
        }
    }

    /** One call for each limb and one for a sign. */
    static void load(IntFile x, int r, BigInteger value) {
        x.set(r, 0);
        int[] limbs = limbsOf(value);
        for (int i = limbs.length - 1; i >= 0; i--) {
            due("push to " + r, x.push(r, limbs[i]), 0);
        }
        if (value.signum() < 0) {
            due("neg of " + r, x.neg(r), 0);
        }
    }

    static void load(IntFile x, int r, String value) {
        load(x, r, new BigInteger(value));
    }

    /** Three calls, one for each limb and one more. */
    static void holds(String what, IntFile x, int r, BigInteger want) {
        int[] limbs = limbsOf(want);
        String register = what + ": register " + r;
        due(register + ", sign", x.sign(r), want.signum());
        due(register + ", length 0", x.length(r, 0), limbs.length);
        due(register + ", length 1", x.length(r, 1), want.abs().bitLength());
        for (int i = 0; i < limbs.length; i++) {
            due(register + ", limb " + i, x.limb(r, i), limbs[i]);
        }
        due(register + ", limb behind the last", x.limb(r, limbs.length), 0);
    }

    /** Four calls, however long it is. */
    static void holdsAtItsEnds(String what, IntFile x, int r, BigInteger want) {
        int[] limbs = limbsOf(want);
        int last = Math.max(0, limbs.length - 1);
        String register = what + ": register " + r;
        due(register + ", sign", x.sign(r), want.signum());
        due(register + ", length 1", x.length(r, 1), want.abs().bitLength());
        due(register + ", lowest limb", x.limb(r, 0), want.abs().intValue());
        due(register + ", highest limb", x.limb(r, last), limbs.length == 0 ? 0 : limbs[last]);
    }

    static void holds(String what, IntFile x, int r, long want) {
        holds(what, x, r, BigInteger.valueOf(want));
    }

    static void typeText(IntFile x, String text) {
        for (int at = 0; at < text.length(); at += 8) {
            int n = Math.min(8, text.length() - at);
            long bytes = 0;
            for (int k = 0; k < n; k++) {
                bytes = bytes << 8 | text.charAt(at + k);
            }
            x.type(bytes, n);
        }
    }

    static void writes(IntFile x, int r, String want) {
        due("write of " + want, x.write(r), want.length());
        for (int i = 0; i < want.length(); i++) {
            due("byte " + i + " of " + want, x.written(i), want.charAt(i));
        }
        due("byte behind " + want, x.written(want.length()), IntFile.BAD);
    }

    static int[] limbsOf(BigInteger value) {
        BigInteger size = value.abs();
        int[] limbs = new int[(size.bitLength() + 31) / 32];
        for (int i = 0; i < limbs.length; i++) {
            limbs[i] = size.shiftRight(32 * i).intValue();
        }
        return limbs;
    }

    static BigInteger two(int power) {
        return BigInteger.ONE.shiftLeft(power);
    }

    /** The greatest number that has room. */
    static BigInteger most(int width) {
        return two(32 * width).subtract(BigInteger.ONE);
    }

    static BigInteger big(long value) {
        return BigInteger.valueOf(value);
    }

    static void end() {
        if (wrong != 0) {
            System.out.println(wrong + " answers are not as due");
            System.exit(1);
        }
    }
}
