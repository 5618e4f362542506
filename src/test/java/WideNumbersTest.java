import java.math.BigInteger;
import java.util.Random;

/** One call on registers that are long and full of hard limbs, any of which may be one, beside the model. */
public final class WideNumbersTest {
    private static final int REGISTERS = 3;
    /** An object has 512 calls: three longer ones can't be both loaded and looked at limb by limb. */
    private static final int MOST_LIMBS_TO_LOOK_AT = 80;
    private static final int[] HARD = {0, 1, 2, 0x7FFFFFFF, 0x80000000, 0x80000001, -2, -1};

    private final Random random;
    private final int width;
    private final IntFile x;
    private final Model model;

    private WideNumbersTest(long seed) {
        random = new Random(seed);
        width = 1 + random.nextInt(120);
        x = new IntFile(REGISTERS, width, random.nextInt(64));
        model = new Model(REGISTERS, width);
        // Factors of half the width make a product that has room.
        int most = random.nextInt(3) == 0 ? (width + 1) / 2 : width;
        for (int r = 0; r < REGISTERS; r++) {
            BigInteger value = number(random.nextInt(4) == 0 ? Math.min(2, most) : most);
            Check.load(x, r, value);
            model.file[r] = value;
        }
    }

    public static void main(String[] args) {
        int rounds = args.length > 0 ? Integer.parseInt(args[0]) : 20_000;
        int first = args.length > 1 ? Integer.parseInt(args[1]) : 0;
        for (int seed = first; seed < first + rounds; seed++) {
            new WideNumbersTest(seed).call("seed " + seed);
        }
        Check.end();
    }

    private BigInteger number(int mostLimbs) {
        int limbs = random.nextInt(3) == 0 ? mostLimbs : random.nextInt(mostLimbs + 1);
        int usual = random.nextInt(2) - 1;
        int kind = random.nextInt(3);
        BigInteger value = BigInteger.ZERO;
        for (int i = 0; i < limbs; i++) {
            value = value.shiftLeft(32).add(BigInteger.valueOf(limb(kind, usual) & 0xFFFFFFFFL));
        }
        return random.nextInt(3) == 0 ? value.negate() : value;
    }

    /** Limbs at random find few carries that go far: long rows of ones and of zeros have them. */
    private int limb(int kind, int usual) {
        if (kind == 0) {
            return random.nextInt();
        }
        return kind == 1 && random.nextInt(5) != 0 ? usual : HARD[random.nextInt(HARD.length)];
    }

    private void call(String seed) {
        int d = random.nextInt(REGISTERS);
        int a = random.nextInt(REGISTERS);
        int b = random.nextInt(REGISTERS);
        int m = random.nextInt(REGISTERS);
        int n = random.nextInt(32 * width + 40);
        String what = seed + ", width " + width + ", d a b m n " + d + a + b + m + " " + n;
        switch (random.nextInt(11)) {
            case 0 -> Check.due(what + ": add", x.add(d, a, b), model.add(d, a, b));
            case 1 -> Check.due(what + ": sub", x.sub(d, a, b), model.sub(d, a, b));
            case 2, 3 -> Check.due(what + ": mul", x.mul(d, a, b), model.mul(d, a, b));
            case 4, 5 -> Check.due(what + ": divMod", x.divMod(d, m, a, b), model.divMod(d, m, a, b));
            case 6 -> Check.due(what + ": shl", x.shl(d, a, n), model.shl(d, a, n));
            case 7 -> Check.due(what + ": shr", x.shr(d, a, n), model.shr(d, a, n));
            case 8 -> Check.due(what + ": gcd", x.gcd(d, a, b), model.gcd(d, a, b));
            case 9 -> Check.due(what + ": powMod", x.powMod(d, a, b, m), model.powMod(d, a, b, m));
            default -> Check.due(what + ": root", x.root(d, a), model.root(d, a));
        }
        look(what, d);
    }

    private void look(String what, int d) {
        for (int r = 0; r < REGISTERS; r++) {
            if (r == d || width <= MOST_LIMBS_TO_LOOK_AT) {
                Check.holds(what, x, r, model.file[r]);
            } else {
                Check.holdsAtItsEnds(what, x, r, model.file[r]);
            }
        }
    }
}
