import java.math.BigInteger;

/** The sentences of promises 2 to 5 that name a boundary. */
public final class EdgesRegistersTest {
    private static final int LEAST = Integer.MIN_VALUE;
    private static final int MOST = Integer.MAX_VALUE;

    public static void main(String[] args) {
        setBecomesX();
        pushWithoutSign();
        pushKeepsSign();
        pushToZeroIsAbove();
        pushFull();
        copyBecomesA();
        negGetsTheOtherSign();
        negOfZero();
        Check.end();
    }

    private static void setBecomesX() {
        Check.sentence("2: A register becomes x");
        for (int value : new int[] {0, 1, -1, MOST - 1, MOST, LEAST, LEAST + 1}) {
            for (int width : new int[] {1, 2, 5}) {
                Scene s = new Scene(width, Check.most(width), Check.most(width).negate(), BigInteger.TEN);
                s.done("set " + value, s.x.set(0, value), 0, Check.big(value));
                s.done("set " + value, s.x.set(1, value), 1, Check.big(value));
                s.done("set 0 after it", s.x.set(1, 0), 1, BigInteger.ZERO);
            }
        }
        Scene s = Scene.of(1, 7, -7);
        for (int r : new int[] {LEAST, -1, 2, MOST}) {
            s.refused("set of none", s.x.set(r, 1), IntFile.BAD);
        }
        s.endsWithItsTape();
    }

    private static void pushWithoutSign() {
        Check.sentence("3: Its SIZE becomes 2^32 times it and w (without sign)");
        for (int w : new int[] {0, 1, -1, MOST, LEAST, LEAST + 1}) {
            BigInteger more = Check.big(w & 0xFFFFFFFFL);
            for (long before : new long[] {0, 1, 0x7FFFFFFFL, 0x80000000L, 0xFFFFFFFFL, 0x100000000L}) {
                BigInteger due = Check.big(before).shiftLeft(32).add(more);
                Scene s = Scene.of(4, before, -3);
                s.done("push of " + w + " to " + before, s.x.push(0, w), 0, due);
                s.done("once more", s.x.push(0, w), 0, due.shiftLeft(32).add(more));
            }
        }
    }

    private static void pushKeepsSign() {
        Check.sentence("3: it keeps its sign");
        for (int w : new int[] {0, 1, -1, MOST, LEAST}) {
            BigInteger size = Check.two(32).add(Check.big(w & 0xFFFFFFFFL));
            Scene s = Scene.of(3, 1, -1);
            s.done("push of " + w + " to 1", s.x.push(0, w), 0, size);
            s.done("push of " + w + " to -1", s.x.push(1, w), 1, size.negate());
        }
    }

    /** However a register came to be 0: no sign of before is left. */
    private static void pushToZeroIsAbove() {
        Check.sentence("3: it keeps its sign (of 0: above 0)");
        zeroBy("nothing", x -> 0);
        zeroBy("set", x -> x.set(0, -4) + x.set(0, 0));
        zeroBy("push", x -> x.set(0, 0) + x.push(0, 0) + x.push(0, 0));
        zeroBy("neg", x -> x.neg(0));
        zeroBy("neg twice", x -> x.neg(0) + x.neg(0));
        zeroBy("copy", x -> x.set(0, -4) + x.copy(0, 2));
        zeroBy("add", x -> x.set(0, 3) + x.add(0, 1, 0));
        zeroBy("add, turned round", x -> x.set(0, 3) + x.add(0, 0, 1));
        zeroBy("sub", x -> x.sub(0, 1, 1));
        zeroBy("0 less 0", x -> x.set(0, -4) + x.sub(0, 2, 2));
        zeroBy("mul", x -> x.mul(0, 1, 2));
        zeroBy("mul, turned round", x -> x.mul(0, 2, 1));
        zeroBy("quotient", x -> x.set(0, 5) + x.divMod(0, 3, 1, 0));
        zeroBy("quotient by below 0", x -> x.set(0, 2) + x.divMod(0, 3, 0, 1));
        zeroBy("rest", x -> x.set(3, -6) + x.divMod(3, 0, 3, 1));
        zeroBy("shl", x -> x.set(0, -4) + x.shl(0, 2, 5));
        zeroBy("shr", x -> x.set(0, 1) + x.shr(0, 0, 1));
        zeroBy("gcd", x -> x.set(0, -4) + x.gcd(0, 2, 2));
        zeroBy("powMod", x -> x.set(3, 1) + x.powMod(0, 1, 3, 3));
        zeroBy("powMod of below 0", x -> x.set(3, 3) + x.powMod(0, 1, 3, 3));
        zeroBy("root", x -> x.set(0, -4) + x.root(0, 2));
        zeroBy("read", x -> x.type('-' << 8 | '0', 2) - 2 + x.read(0));
    }

    private interface Calls {
        int on(IntFile x);
    }

    /** Register 1 is -3 and register 2 is 0 before. */
    private static void zeroBy(String what, Calls calls) {
        IntFile x = new IntFile(4, 3, 4);
        x.set(1, -3);
        Check.due("0 by " + what, calls.on(x), 0);
        Check.due("sign of 0 by " + what, x.sign(0), 0);
        Check.due("0 by " + what + " is 0", x.cmp(0, 2), 0);
        Check.due("0 is 0 by " + what, x.cmp(2, 0), 0);
        Check.writes(x, 0, "0");
        Check.due("push to 0 by " + what, x.push(0, -1), 0);
        Check.holds("push to 0 by " + what, x, 0, 0xFFFFFFFFL);
    }

    private static void pushFull() {
        Check.sentence("3: FULL");
        for (int width : new int[] {1, 2, 3, 4, 5, 60, 119, 120}) {
            for (int w : new int[] {0, 1, -1}) {
                pushFull(width, w, BigInteger.ONE);
                pushFull(width, w, BigInteger.ONE.negate());
            }
        }
        Scene s = Scene.of(1, 0, 1);
        s.done("0 to 0 has room", s.x.push(0, 0), 0, BigInteger.ZERO);
        s.done("0 to 0 has room again", s.x.push(0, 0), 0, BigInteger.ZERO);
        s.done("-1 to 0 has room", s.x.push(0, -1), 0, Check.most(1));
        s.refused("0 has none then", s.x.push(0, 0), IntFile.FULL);
    }

    private static void pushFull(int width, int w, BigInteger sign) {
        BigInteger last = Check.two(32 * (width - 1)).multiply(sign);
        Scene s = new Scene(width, last, sign);
        s.refused("push of " + w + " to " + width + " limbs", s.x.push(0, w), IntFile.FULL);
        if (width > 1) {
            BigInteger before = Check.two(32 * (width - 2));
            BigInteger due = before.shiftLeft(32).add(Check.big(w & 0xFFFFFFFFL)).multiply(sign);
            Scene t = new Scene(width, before.multiply(sign), sign);
            t.done("push of " + w + " to one limb less", t.x.push(0, w), 0, due);
        }
    }

    private static void copyBecomesA() {
        Check.sentence("4: d becomes a");
        for (int width : new int[] {1, 2, 3, 100}) {
            BigInteger most = Check.most(width);
            Scene s = new Scene(width, most.negate(), BigInteger.ZERO);
            s.done("copy of the least to 0", s.x.copy(1, 0), 1, most.negate());
            Scene t = new Scene(width, most, BigInteger.ZERO);
            t.done("copy of 0 to the greatest", t.x.copy(0, 1), 0, BigInteger.ZERO);
            Scene u = new Scene(width, most.negate(), BigInteger.ONE);
            u.done("copy to itself", u.x.copy(0, 0), 0, most.negate());
            u.done("a copy is no second name", u.x.set(0, 3), 0, Check.big(3));
        }
        Scene s = Scene.of(2, 5, -6);
        for (int r : new int[] {LEAST, -1, 2, MOST}) {
            s.refused("copy to none", s.x.copy(r, 1), IntFile.BAD);
            s.refused("copy of none", s.x.copy(1, r), IntFile.BAD);
        }
        s.endsWithItsTape();
    }

    private static void negGetsTheOtherSign() {
        Check.sentence("5: A register gets the other sign");
        for (int width : new int[] {1, 2, 3, 60}) {
            for (BigInteger value : new BigInteger[] {BigInteger.ONE, Check.two(31), Check.two(32 * width - 1), Check.most(width)}) {
                Scene s = new Scene(width, BigInteger.TEN, value);
                s.done("neg of " + value, s.x.neg(1), 1, value.negate());
                s.done("neg of its opposite", s.x.neg(1), 1, value);
            }
        }
        Scene s = Scene.of(2, 5, -6);
        for (int r : new int[] {LEAST, -1, 2, MOST}) {
            s.refused("neg of none", s.x.neg(r), IntFile.BAD);
        }
        s.endsWithItsTape();
    }

    private static void negOfZero() {
        Check.sentence("5: A register gets the other sign (0 has none)");
        Scene s = Scene.of(2, 0, -6);
        s.done("neg of 0", s.x.neg(0), 0, BigInteger.ZERO);
        s.done("add to it", s.x.add(0, 0, 0), 0, BigInteger.ZERO);
        s.done("neg of 0 again", s.x.neg(0), 0, BigInteger.ZERO);
        s.done("sub from it", s.x.sub(0, 0, 1), 0, Check.big(6));
    }
}
