import java.math.BigInteger;

/** The sentences of promise 1 that name a boundary. */
public final class EdgesNewObjectTest {
    private static final int LEAST = Integer.MIN_VALUE;
    private static final int MOST = Integer.MAX_VALUE;

    public static void main(String[] args) {
        nearestRegisters();
        nearestWidth();
        cutIsNotSeen();
        Check.end();
    }

    private static void nearestRegisters() {
        Check.sentence("1: So many registers (the nearest of 1 .. 12)");
        for (int asked = 1; asked <= 12; asked++) {
            registers(asked, asked);
        }
        for (int asked : new int[] {LEAST, -12, -1, 0}) {
            registers(asked, 1);
        }
        for (int asked : new int[] {13, 14, 120, MOST}) {
            registers(asked, 12);
        }
    }

    private static void registers(int asked, int due) {
        IntFile x = new IntFile(asked, 2, 4);
        String what = "with " + asked + " registers: ";
        for (int r = 0; r < due; r++) {
            Check.due(what + "set " + r, x.set(r, 100 + r), 0);
        }
        for (int r : new int[] {LEAST, -1, due, due + 1, 13, MOST}) {
            Check.due(what + "set " + r, x.set(r, 1), IntFile.BAD);
            Check.due(what + "sign " + r, x.sign(r), 2);
            Check.due(what + "write " + r, x.write(r), IntFile.BAD);
        }
        for (int r = 0; r < due; r++) {
            Check.holds(what, x, r, 100 + r);
        }
    }

    private static void nearestWidth() {
        Check.sentence("1: a WIDTH (the nearest of 1 .. 120)");
        for (int asked = 1; asked <= 120; asked++) {
            width(asked, asked);
        }
        for (int asked : new int[] {LEAST, -120, -1, 0}) {
            width(asked, 1);
        }
        for (int asked : new int[] {121, 122, 240, MOST}) {
            width(asked, 120);
        }
    }

    private static void width(int asked, int due) {
        IntFile x = new IntFile(2, asked, 4);
        String what = "with a width of " + asked + ": ";
        for (int i = 1; i <= due; i++) {
            Check.due(what + "limb " + i, x.push(0, -1), 0);
        }
        Check.due(what + "limb " + (due + 1), x.push(0, -1), IntFile.FULL);
        Check.holds(what, x, 0, Check.most(due));
        x.set(1, -1);
        Check.due(what + "less -1", x.sub(1, 0, 1), IntFile.FULL);
        Check.due(what + "up to its highest bit", x.shl(1, 1, 32 * due - 1), 0);
        Check.due(what + "over it", x.shl(1, 1, 1), IntFile.FULL);
    }

    /** Factors whose halves are of the same length, or not, or one of them none, at and around each cut. */
    private static void cutIsNotSeen() {
        Check.sentence("1: (the nearest of 4 .. 60; this is not seen in what is answered)");
        for (int cut = 3; cut <= 61; cut++) {
            withCut(cut);
        }
        for (int cut : new int[] {LEAST, -4, -1, 0, 1, 2, 120, MOST}) {
            withCut(cut);
        }
    }

    private static void withCut(int cut) {
        int near = Math.max(2, Math.min(60, cut));
        product(cut, 60, 60);
        product(cut, 61, 59);
        product(cut, 80, 40);
        product(cut, 79, 41);
        product(cut, 119, 1);
        product(cut, near, near);
        product(cut, near - 1, near - 1);
        product(cut, near, near - 1);
        product(cut, 120 - near, near);
        square(cut);
    }

    private static void product(int cut, int limbsOfA, int limbsOfB) {
        BigInteger a = Check.most(limbsOfA).subtract(Check.two(32 * limbsOfA / 2)).negate();
        BigInteger b = Check.most(limbsOfB);
        IntFile x = new IntFile(3, 120, cut);
        Check.load(x, 0, a);
        Check.load(x, 1, b);
        String what = "with a cut of " + cut + ": " + limbsOfA + " limbs by " + limbsOfB;
        Check.due(what, x.mul(2, 0, 1), 0);
        Check.holds(what, x, 2, a.multiply(b));
        Check.due(what + ", turned round", x.mul(1, 1, 0), 0);
        Check.due(what + ", turned round", x.cmp(1, 2), 0);
    }

    /** The longest product that a call can need: it has 240 limbs. */
    private static void square(int cut) {
        BigInteger a = Check.most(120).subtract(Check.two(1000)).subtract(BigInteger.TWO);
        BigInteger m = Check.most(120).subtract(Check.two(77));
        IntFile x = new IntFile(3, 120, cut);
        Check.load(x, 0, a);
        Check.load(x, 1, m);
        x.set(2, 2);
        Check.due("with a cut of " + cut + ": square", x.powMod(0, 0, 2, 1), 0);
        Check.holds("with a cut of " + cut + ": square", x, 0, a.modPow(BigInteger.TWO, m));
    }
}
