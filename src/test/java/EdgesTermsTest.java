import java.math.BigInteger;

/** The sentences of the document's section "Terms" (and of "What it is") that name a boundary. */
public final class EdgesTermsTest {
    private static final int MOST_CALLS = 512;
    private static final int REGISTERS = 3;
    private static final int WIDTH = 3;
    private static final int[] NONE = {-1, REGISTERS, REGISTERS + 1, 12, Integer.MAX_VALUE, Integer.MIN_VALUE};

    private interface Call {
        int on(IntFile x, int[] r);
    }

    private interface ModelCall {
        int on(Model x, int[] r);
    }

    /** A call with as many registers as it names; what it answers when one of them is none. */
    private record Op(String name, int named, int ofNone, Call call, ModelCall model) {
    }

    /** All that name registers but write and read, which have a text and a tape beside them: see their own tests. */
    private static final Op[] OPS = {
        new Op("set", 1, IntFile.BAD, (x, r) -> x.set(r[0], -5), (x, r) -> x.set(r[0], -5)),
        new Op("push", 1, IntFile.BAD, (x, r) -> x.push(r[0], -5), (x, r) -> x.push(r[0], -5)),
        new Op("copy", 2, IntFile.BAD, (x, r) -> x.copy(r[0], r[1]), (x, r) -> x.copy(r[0], r[1])),
        new Op("neg", 1, IntFile.BAD, (x, r) -> x.neg(r[0]), (x, r) -> x.neg(r[0])),
        new Op("add", 3, IntFile.BAD, (x, r) -> x.add(r[0], r[1], r[2]), (x, r) -> x.add(r[0], r[1], r[2])),
        new Op("sub", 3, IntFile.BAD, (x, r) -> x.sub(r[0], r[1], r[2]), (x, r) -> x.sub(r[0], r[1], r[2])),
        new Op("mul", 3, IntFile.BAD, (x, r) -> x.mul(r[0], r[1], r[2]), (x, r) -> x.mul(r[0], r[1], r[2])),
        new Op("divMod", 4, IntFile.BAD, (x, r) -> x.divMod(r[0], r[1], r[2], r[3]),
            (x, r) -> x.divMod(r[0], r[1], r[2], r[3])),
        new Op("shl by -1", 2, IntFile.BAD, (x, r) -> x.shl(r[0], r[1], -1), (x, r) -> x.shl(r[0], r[1], -1)),
        new Op("shl by 1", 2, IntFile.BAD, (x, r) -> x.shl(r[0], r[1], 1), (x, r) -> x.shl(r[0], r[1], 1)),
        new Op("shl by 33", 2, IntFile.BAD, (x, r) -> x.shl(r[0], r[1], 33), (x, r) -> x.shl(r[0], r[1], 33)),
        new Op("shr by -1", 2, IntFile.BAD, (x, r) -> x.shr(r[0], r[1], -1), (x, r) -> x.shr(r[0], r[1], -1)),
        new Op("shr by 1", 2, IntFile.BAD, (x, r) -> x.shr(r[0], r[1], 1), (x, r) -> x.shr(r[0], r[1], 1)),
        new Op("shr by 33", 2, IntFile.BAD, (x, r) -> x.shr(r[0], r[1], 33), (x, r) -> x.shr(r[0], r[1], 33)),
        new Op("gcd", 3, IntFile.BAD, (x, r) -> x.gcd(r[0], r[1], r[2]), (x, r) -> x.gcd(r[0], r[1], r[2])),
        new Op("powMod", 4, IntFile.BAD, (x, r) -> x.powMod(r[0], r[1], r[2], r[3]),
            (x, r) -> x.powMod(r[0], r[1], r[2], r[3])),
        new Op("root", 2, IntFile.BAD, (x, r) -> x.root(r[0], r[1]), (x, r) -> x.root(r[0], r[1])),
        new Op("cmp", 2, 2, (x, r) -> x.cmp(r[0], r[1]), (x, r) -> x.cmp(r[0], r[1])),
        new Op("sign", 1, 2, (x, r) -> x.sign(r[0]), (x, r) -> x.sign(r[0])),
        new Op("length 0", 1, IntFile.BAD, (x, r) -> x.length(r[0], 0), (x, r) -> x.length(r[0], 0)),
        new Op("length 1", 1, IntFile.BAD, (x, r) -> x.length(r[0], 1), (x, r) -> x.length(r[0], 1)),
        new Op("length 2", 1, IntFile.BAD, (x, r) -> x.length(r[0], 2), (x, r) -> x.length(r[0], 2)),
        new Op("limb 0", 1, 0, (x, r) -> x.limb(r[0], 0), (x, r) -> x.limb(r[0], 0))};

    public static void main(String[] args) {
        zeroAtFirst();
        zeroHasNoLimbs();
        roomIsWidthLimbs();
        badComesFirst();
        noChangesNothing();
        fullChangesNothing();
        mayBeOneAndTheSame();
        nothingIsLeftOfBefore();
        lastOfTheCalls();
        Check.end();
    }

    private static void zeroAtFirst() {
        Check.sentence("each has a whole number (0 at first)");
        IntFile x = new IntFile(12, 120, 60);
        for (int r = 0; r < 12; r++) {
            Check.holds("new", x, r, 0);
        }
        Check.due("two new ones", x.cmp(0, 11), 0);
        Check.writes(x, 5, "0");
    }

    private static void zeroHasNoLimbs() {
        Check.sentence("its LIMBS are .. without leading zeros (0 has none)");
        IntFile x = new IntFile(3, 3, 4);
        x.set(0, -1);
        x.push(0, 0);
        x.push(0, 0);
        x.copy(1, 0);
        Check.due("sub of itself", x.sub(0, 0, 0), 0);
        Check.holds("sub of itself", x, 0, 0);
        x.push(2, 0);
        x.push(2, 0);
        x.push(2, 9);
        Check.holds("zeros pushed before", x, 2, 9);
        x.neg(1);
        x.push(0, 1);
        x.push(0, 0);
        x.push(0, -1);
        Check.due("the higher limbs go", x.sub(1, 0, 1), 0);
        Check.holds("the higher limbs go", x, 1, 0xFFFFFFFFL);
    }

    private static void roomIsWidthLimbs() {
        Check.sentence("A number has ROOM, if it has at most WIDTH limbs");
        for (int width = 1; width <= 120; width++) {
            BigInteger least = Check.two(32 * (width - 1));
            room(width, least, Check.most(width));
            room(width, least.negate(), Check.most(width).negate());
        }
    }

    private static void room(int width, BigInteger least, BigInteger most) {
        IntFile x = new IntFile(3, width, 4);
        x.set(0, least.signum());
        x.copy(1, 0);
        Check.due("up to " + width + " limbs", x.shl(0, 0, 32 * (width - 1)), 0);
        Check.due("its limbs", x.length(0, 0), width);
        Check.due("one limb more", x.shl(2, 0, 32), IntFile.FULL);
        Check.due("nothing was put", x.sign(2), 0);
        Check.load(x, 0, most);
        Check.due("the greatest and one", x.add(2, 0, 1), IntFile.FULL);
        Check.due("the greatest and none", x.copy(2, 0), 0);
        Check.due("nothing is greater", x.cmp(2, 0), 0);
    }

    /** Every register of every call is once none, beside others that are one, that would bring NO, and FULL. */
    private static void badComesFirst() {
        Check.sentence("BAD, when a register is none (this is looked at first, of all that are named)");
        for (Op op : OPS) {
            int many = power(REGISTERS + 1, op.named);
            for (int code = 0; code < many; code++) {
                for (int none : NONE) {
                    badIfOneIsNone(op, code, none);
                }
            }
        }
    }

    private static void badIfOneIsNone(Op op, int code, int none) {
        int[] r = digits(code, REGISTERS + 1, op.named);
        boolean isOneNone = false;
        for (int k = 0; k < r.length; k++) {
            if (r[k] == REGISTERS) {
                r[k] = none;
                isOneNone = true;
            }
        }
        if (isOneNone) {
            Scene s = new Scene(1, Check.most(1), Check.most(1).negate(), BigInteger.ZERO);
            s.refused(op.name + named(r), op.call.on(s.x, r), op.ofNone);
            s.endsWithItsTape();
        }
    }

    private static void noChangesNothing() {
        Check.sentence("Others change nothing: .. then NO");
        BigInteger most = Check.most(3);
        refused("divMod by 0", IntFile.NO, x -> x.divMod(0, 1, 0, 2), most, most.negate(), BigInteger.ZERO);
        refused("divMod to one", IntFile.NO, x -> x.divMod(2, 2, 0, 1), most, most.negate(), BigInteger.TEN);
        refused("shl by -1", IntFile.NO, x -> x.shl(1, 0, -1), most, BigInteger.TEN);
        refused("shr by -1", IntFile.NO, x -> x.shr(1, 0, -1), most, BigInteger.TEN);
        refused("powMod by 0", IntFile.NO, x -> x.powMod(0, 0, 1, 2), most, BigInteger.TWO, BigInteger.ZERO);
        refused("powMod by -1", IntFile.NO, x -> x.powMod(0, 0, 1, 2), most, BigInteger.TWO, Check.big(-1));
        refused("powMod, e = -1", IntFile.NO, x -> x.powMod(0, 0, 1, 2), most, Check.big(-1), BigInteger.TWO);
        refused("powMod, e = 2^64", IntFile.NO, x -> x.powMod(0, 0, 1, 2), most, Check.two(64), BigInteger.TWO);
        refused("root of -1", IntFile.NO, x -> x.root(0, 1), most, Check.big(-1));
    }

    private static void fullChangesNothing() {
        Check.sentence("Others change nothing: .. then FULL: a number that would be put has no ROOM");
        for (int side = -1; side <= 1; side += 2) {
            BigInteger most = Check.most(3).multiply(Check.big(side));
            BigInteger one = Check.big(side);
            refused("push", IntFile.FULL, x -> x.push(0, 0), most, one);
            refused("add", IntFile.FULL, x -> x.add(0, 0, 1), most, one);
            refused("add to the other", IntFile.FULL, x -> x.add(1, 0, 1), most, one);
            refused("sub", IntFile.FULL, x -> x.sub(0, 0, 1), most, one.negate());
            refused("sub to the other", IntFile.FULL, x -> x.sub(1, 0, 1), most, one.negate());
            refused("mul", IntFile.FULL, x -> x.mul(0, 0, 1), most, BigInteger.TWO);
            refused("mul to the other", IntFile.FULL, x -> x.mul(1, 0, 1), most, BigInteger.TWO);
            refused("square", IntFile.FULL, x -> x.mul(1, 0, 0), most, BigInteger.TWO);
            refused("shl", IntFile.FULL, x -> x.shl(0, 0, 1), most, one);
            refused("shl to the other", IntFile.FULL, x -> x.shl(1, 0, 1), most, one);
        }
    }

    private interface OneCall {
        int on(IntFile x);
    }

    private static void refused(String what, int due, OneCall call, BigInteger... values) {
        Scene s = new Scene(WIDTH, values);
        s.refused(what, call.on(s.x), due);
        s.refused(what + " once more", call.on(s.x), due);
        s.endsWithItsTape();
    }

    private static void mayBeOneAndTheSame() {
        Check.sentence("Registers that are named may be one and the same ..: what they have is taken before anything is put");
        BigInteger[] values = {
            BigInteger.ZERO, Check.big(3), Check.big(-12), Check.two(64).subtract(BigInteger.ONE), Check.two(40).negate(),
            Check.most(WIDTH), Check.most(WIDTH).negate()};
        for (int chosen = 0; chosen < power(values.length, REGISTERS); chosen++) {
            int[] which = digits(chosen, values.length, REGISTERS);
            for (Op op : OPS) {
                for (int code = 0; code < power(REGISTERS, op.named); code++) {
                    sameAsModel(new IntFile(REGISTERS, WIDTH, 4), op, digits(code, REGISTERS, op.named), values, which);
                }
            }
        }
    }

    private static void sameAsModel(IntFile x, Op op, int[] r, BigInteger[] values, int[] which) {
        Model model = new Model(REGISTERS, WIDTH);
        for (int k = 0; k < REGISTERS; k++) {
            Check.load(x, k, values[which[k]]);
            model.file[k] = values[which[k]];
        }
        String what = op.name + named(r) + " of " + model.file[0] + ", " + model.file[1] + ", " + model.file[2];
        Check.due(what, op.call.on(x, r), op.model.on(model, r));
        for (int k = 0; k < REGISTERS; k++) {
            Check.holds(what, x, k, model.file[k]);
        }
    }

    /** Short numbers in registers, and of calls, that had the longest before. */
    private static void nothingIsLeftOfBefore() {
        Check.sentence("each has a whole number: nothing is left of what it had, or of calls, before");
        BigInteger[] values = {BigInteger.ZERO, BigInteger.ONE, Check.big(-5), Check.two(32), Check.most(2).negate()};
        for (int chosen = 0; chosen < power(values.length, REGISTERS); chosen++) {
            int[] which = digits(chosen, values.length, REGISTERS);
            for (Op op : OPS) {
                for (int code = 0; code < power(REGISTERS, op.named); code++) {
                    sameAsModel(usedBefore(), op, digits(code, REGISTERS, op.named), values, which);
                }
            }
        }
    }

    private static IntFile usedBefore() {
        IntFile x = new IntFile(REGISTERS, WIDTH, 4);
        Check.load(x, 0, Check.most(WIDTH));
        Check.load(x, 1, Check.most(WIDTH).negate());
        x.set(2, 3);
        x.powMod(2, 1, 2, 0);
        Check.load(x, 2, Check.most(WIDTH));
        x.root(2, 0);
        x.gcd(2, 0, 1);
        x.write(1);
        x.set(2, 1);
        x.divMod(2, 1, 0, 2);
        Check.load(x, 1, Check.most(WIDTH).negate());
        return x;
    }

    private static void lastOfTheCalls() {
        Check.sentence("An object is used for at most 512 calls after it has been made");
        IntFile x = new IntFile(2, 120, 4);
        x.set(1, -1);
        int calls = 1;
        while (calls < MOST_CALLS - 2) {
            Check.due("add", x.add(0, 0, 1), 0);
            calls++;
        }
        Check.due("call 511", x.limb(0, 0), MOST_CALLS - 3);
        Check.due("call 512", x.sign(0), -1);
        IntFile y = new IntFile(1, 120, 4);
        for (int call = 1; call <= MOST_CALLS; call++) {
            Check.due("type, call " + call, y.type('0', 1), call);
        }
    }

    private static int power(int base, int exponent) {
        int value = 1;
        for (int k = 0; k < exponent; k++) {
            value *= base;
        }
        return value;
    }

    private static int[] digits(int code, int base, int many) {
        int[] digits = new int[many];
        int left = code;
        for (int k = 0; k < many; k++) {
            digits[k] = left % base;
            left /= base;
        }
        return digits;
    }

    private static String named(int[] r) {
        StringBuilder text = new StringBuilder();
        for (int one : r) {
            text.append(' ').append(one);
        }
        return text.toString();
    }
}
