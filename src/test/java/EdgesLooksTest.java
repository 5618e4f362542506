import java.math.BigInteger;

/** The sentences of promises 15 to 18 that name a boundary. */
public final class EdgesLooksTest {
    private static final BigInteger ONE = BigInteger.ONE;
    private static final BigInteger ZERO = BigInteger.ZERO;
    private static final int LEAST = Integer.MIN_VALUE;
    private static final int MOST = Integer.MAX_VALUE;
    private static final int[] NONE = {-1, 2, 3, 12, MOST, LEAST};

    public static void main(String[] args) {
        lessSameGreater();
        limbsAreComparedWithoutSign();
        compareNone();
        signOfEach();
        signOfNone();
        limbsOfEach();
        bitsOfEach();
        anotherWhat();
        lengthOfNone();
        limbsAreOfTheSize();
        limbBehindTheLast();
        limbThatIsGone();
        limbNoneSuch();
        Check.end();
    }

    private static void lessSameGreater() {
        Check.sentence("15: -1, 0, 1: a is less than b, the same, greater");
        BigInteger[] inOrder = {
            Check.most(3).negate(), Check.most(3).subtract(ONE).negate(), Check.two(64).negate(), Check.most(2).negate(),
            Check.two(32).negate(), Check.most(1).negate(), Check.two(31).negate(), Check.big(-2), ONE.negate(), ZERO, ONE,
            Check.big(2), Check.two(31).subtract(ONE), Check.two(31), Check.most(1), Check.two(32), Check.two(32).add(ONE),
            Check.most(2), Check.two(64), Check.two(95), Check.most(3).subtract(Check.two(64)), Check.most(3).subtract(ONE),
            Check.most(3)};
        for (int i = 0; i < inOrder.length; i++) {
            for (int j = 0; j < inOrder.length; j++) {
                Scene s = new Scene(3, inOrder[i], inOrder[j]);
                int due = Integer.compare(i, j);
                s.refused("cmp of " + inOrder[i] + " and " + inOrder[j], s.x.cmp(0, 1), due);
                s.refused("cmp of " + inOrder[j] + " and " + inOrder[i], s.x.cmp(1, 0), -due);
            }
            Scene s = new Scene(3, inOrder[i], ZERO);
            s.refused("cmp of " + inOrder[i] + " with itself", s.x.cmp(0, 0), 0);
        }
    }

    /** A limb from 2^31 on is no number below 0, at whatever place it stands. */
    private static void limbsAreComparedWithoutSign() {
        Check.sentence("15: a is less than b (its limbs are without sign)");
        for (int place = 0; place < 5; place++) {
            BigInteger rest = Check.two(170).add(Check.two(32 * place).subtract(ONE));
            BigInteger less = rest.add(Check.big(0x7FFFFFFFL).shiftLeft(32 * place));
            BigInteger more = rest.add(Check.big(0x80000000L).shiftLeft(32 * place));
            IntFile x = new IntFile(4, 6, 4);
            Check.load(x, 0, less);
            Check.load(x, 1, more);
            Check.load(x, 2, less.negate());
            Check.load(x, 3, more.negate());
            Check.due("above 0, limb " + place, x.cmp(0, 1), -1);
            Check.due("above 0, limb " + place, x.cmp(1, 0), 1);
            Check.due("below 0, limb " + place, x.cmp(2, 3), 1);
            Check.due("below 0, limb " + place, x.cmp(3, 2), -1);
            Check.due("both sides, limb " + place, x.cmp(3, 0), -1);
            Check.due("both sides, limb " + place, x.cmp(0, 3), 1);
        }
    }

    private static void compareNone() {
        Check.sentence("15: 2: a register is none");
        for (int r : NONE) {
            Scene s = Scene.of(1, 7, -7);
            s.refused("cmp of none", s.x.cmp(r, 0), 2);
            s.refused("cmp with none", s.x.cmp(1, r), 2);
            s.refused("cmp of none with itself", s.x.cmp(r, r), 2);
            s.refused("cmp of none with another", s.x.cmp(r, -2), 2);
            s.endsWithItsTape();
        }
    }

    private static void signOfEach() {
        Check.sentence("16: -1, 0, 1: a register is below 0, is 0, above");
        for (BigInteger a : new BigInteger[] {ONE, Check.two(31), Check.most(1), Check.two(32), Check.two(95), Check.most(3)}) {
            Scene s = new Scene(3, a, a.negate());
            s.refused("sign of " + a, s.x.sign(0), 1);
            s.refused("sign of -" + a, s.x.sign(1), -1);
            s.done("less itself", s.x.sub(1, 1, 1), 1, ZERO);
            s.refused("sign of 0", s.x.sign(1), 0);
        }
        Scene s = Scene.of(1, 0, 0);
        s.refused("sign of 0", s.x.sign(0), 0);
        s.done("neg", s.x.neg(0), 0, ZERO);
        s.refused("sign of 0 after neg", s.x.sign(0), 0);
    }

    private static void signOfNone() {
        Check.sentence("16: 2: it is none");
        Scene s = Scene.of(1, 7, -7);
        for (int r : NONE) {
            s.refused("sign of " + r, s.x.sign(r), 2);
        }
        s.endsWithItsTape();
    }

    private static void limbsOfEach() {
        Check.sentence("17: How many limbs it has (what = 0)");
        IntFile zero = new IntFile(1, 1, 4);
        Check.due("limbs of 0", zero.length(0, 0), 0);
        for (int limbs = 1; limbs <= 120; limbs++) {
            IntFile x = new IntFile(2, 120, 4);
            x.set(0, -1);
            x.shl(0, 0, 32 * (limbs - 1));
            Check.due("limbs of the least that has " + limbs, x.length(0, 0), limbs);
            Check.load(x, 1, Check.most(limbs));
            Check.due("limbs of the greatest that has " + limbs, x.length(1, 0), limbs);
        }
    }

    private static void bitsOfEach() {
        Check.sentence("17: how many bits its SIZE has without leading zeros (1)");
        IntFile zero = new IntFile(1, 1, 4);
        Check.due("bits of 0", zero.length(0, 1), 0);
        for (int bits = 1; bits <= 3840; bits++) {
            IntFile x = new IntFile(3, 120, 4);
            x.set(0, bits % 2 == 0 ? 1 : -1);
            x.copy(1, 0);
            Check.due("up by " + (bits - 1), x.shl(0, 0, bits - 1), 0);
            Check.due("bits of 2^" + (bits - 1), x.length(0, 1), bits);
            Check.due("limbs of 2^" + (bits - 1), x.length(0, 0), (bits + 31) / 32);
            x.sub(2, 0, 1);
            Check.due("bits of one less", x.length(2, 1), bits - 1);
            x.add(2, 2, 0);
            Check.due("bits of twice that and one", x.length(2, 1), bits);
        }
    }

    private static void anotherWhat() {
        Check.sentence("17: BAD: .. another what");
        for (int what : new int[] {LEAST, -2, -1, 2, 3, 256, 65536, MOST}) {
            Scene s = Scene.of(2, 7, 0);
            s.refused("length with what = " + what, s.x.length(0, what), IntFile.BAD);
            s.refused("length of 0 with what = " + what, s.x.length(1, what), IntFile.BAD);
            s.endsWithItsTape();
        }
    }

    private static void lengthOfNone() {
        Check.sentence("17: BAD: a register is none");
        for (int r : NONE) {
            Scene s = Scene.of(2, 7, 0);
            s.refused("limbs of none", s.x.length(r, 0), IntFile.BAD);
            s.refused("bits of none", s.x.length(r, 1), IntFile.BAD);
            s.refused("another what of none", s.x.length(r, 2), IntFile.BAD);
            s.endsWithItsTape();
        }
    }

    private static void limbsAreOfTheSize() {
        Check.sentence("18: Limb i of a register (its LIMBS are its SIZE to the base of 2^32, the lowest one first)");
        for (int sign = -1; sign <= 1; sign += 2) {
            IntFile x = new IntFile(1, 5, 4);
            x.set(0, 3 * sign);
            x.push(0, LEAST);
            x.push(0, 0);
            x.push(0, -1);
            x.push(0, 9);
            int[] due = {9, -1, 0, LEAST, 3, 0, 0};
            for (int i = 0; i < due.length; i++) {
                Check.due("limb " + i, x.limb(0, i), due[i]);
            }
        }
        IntFile x = new IntFile(1, 1, 4);
        x.set(0, LEAST);
        Check.due("limb of the least int", x.limb(0, 0), LEAST);
        x.set(0, -5);
        Check.due("limb of -5", x.limb(0, 0), 5);
    }

    private static void limbBehindTheLast() {
        Check.sentence("18: 0 behind its last one");
        for (int width : new int[] {1, 2, 5, 120}) {
            IntFile x = new IntFile(2, width, 4);
            Check.load(x, 0, Check.most(width).negate());
            Check.due("the last limb", x.limb(0, width - 1), -1);
            for (int i : new int[] {width, width + 1, width + 2, 120, 121, 240, 241, 1 << 27, 1 << 30, MOST - 1, MOST}) {
                Check.due("limb " + i + " at a width of " + width, x.limb(0, i), 0);
                Check.due("limb " + i + " of 0", x.limb(1, i), 0);
            }
            Check.due("limb 0 of 0", x.limb(1, 0), 0);
        }
    }

    private interface Calls {
        void on(IntFile x);
    }

    /** A register that had more limbs before has zeros there now. */
    private static void limbThatIsGone() {
        Check.sentence("18: 0 behind its last one, though there were more before");
        gone("set", x -> x.set(0, 1));
        gone("copy", x -> x.copy(0, 1));
        gone("add", x -> x.add(0, 1, 2));
        gone("sub", x -> x.sub(0, 0, 0));
        gone("mul", x -> x.mul(0, 1, 1));
        gone("quotient", x -> x.divMod(0, 3, 1, 1));
        gone("rest", x -> x.divMod(3, 0, 1, 1));
        gone("shl", x -> x.shl(0, 1, 3));
        gone("shr", x -> x.shr(0, 0, 90));
        gone("gcd", x -> x.gcd(0, 1, 2));
        gone("powMod", x -> x.powMod(0, 1, 1, 1));
        gone("root", x -> x.root(0, 1));
        gone("read", x -> { x.type('5', 1); x.read(0); });
    }

    private static void gone(String what, Calls calls) {
        IntFile x = new IntFile(4, 3, 4);
        Check.load(x, 0, Check.most(3));
        x.set(1, 6);
        x.set(2, -4);
        calls.on(x);
        for (int i = 1; i < 4; i++) {
            Check.due("limb " + i + " after " + what, x.limb(0, i), 0);
        }
    }

    private static void limbNoneSuch() {
        Check.sentence("18: 0 .. when there is none such");
        Scene s = Scene.of(1, 7, -7);
        for (int i : new int[] {-1, -2, -32, -120, LEAST + 1, LEAST}) {
            s.refused("limb " + i, s.x.limb(0, i), 0);
        }
        for (int r : NONE) {
            s.refused("limb 0 of register " + r, s.x.limb(r, 0), 0);
        }
        s.refused("limb -1 of register -1", s.x.limb(-1, -1), 0);
        s.refused("limb 1 of register 2", s.x.limb(2, 1), 0);
        s.endsWithItsTape();
    }
}
