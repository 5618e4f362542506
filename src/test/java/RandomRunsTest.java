import java.util.Random;

/** Long runs of calls of all kinds, compared with the model: registers that are one, refusals, and what they leave. */
public final class RandomRunsTest {
    private static final int MOST_CALLS = 512;
    private static final int[] HARD = {0, 1, -1, 2, -2, 10, 0x7FFFFFFF, 0x80000000, 0x80000001, 0x10000, 999999999, 1000000000};
    private static final String[] TEXTS = {"+", "-", "0", "00000000", "1", "12345678", "99999999", "-7", "+19", " ", "5x", "4294"};

    private final Random random;
    private final IntFile x;
    private final Model model;
    private final int width;
    private int calls = 0;

    private RandomRunsTest(long seed) {
        random = new Random(seed);
        int registers = random.nextInt(15) - 1;
        int asked = random.nextInt(3) == 0 ? random.nextInt(125) - 2 : 1 + random.nextInt(12);
        int cut = random.nextInt(3) == 0 ? random.nextInt(70) : 4;
        x = new IntFile(registers, asked, cut);
        model = new Model(registers, asked);
        width = model.width;
    }

    public static void main(String[] args) {
        int runs = args.length > 0 ? Integer.parseInt(args[0]) : 3000;
        int first = args.length > 1 ? Integer.parseInt(args[1]) : 0;
        for (int seed = first; seed < first + runs; seed++) {
            new RandomRunsTest(seed).run(seed);
        }
        Check.end();
    }

    private void run(long seed) {
        while (calls < MOST_CALLS - 8) {
            step("seed " + seed + ", call " + calls + ": ");
        }
    }

    private void due(String call, int got, int want) {
        calls++;
        Check.due(call, got, want);
    }

    private int register() {
        return random.nextInt(60) == 0 ? random.nextInt(40) - 20 : random.nextInt(Math.min(4, model.file.length));
    }

    private int number() {
        return random.nextInt(3) == 0 ? random.nextInt() : HARD[random.nextInt(HARD.length)];
    }

    private int shift() {
        switch (random.nextInt(12)) {
            case 0:
                return number();
            case 1:
                return 32 * random.nextInt(width + 1);
            case 2:
                return random.nextInt(32 * width + 2);
            default:
                return random.nextInt(70);
        }
    }

    private void step(String at) {
        int d = register();
        int a = register();
        int b = register();
        int c = register();
        int n;
        switch (random.nextInt(24)) {
            case 0 -> { n = number(); due(at + "set", x.set(d, n), model.set(d, n)); }
            case 1, 2, 3 -> pushes(at, d);
            case 4 -> due(at + "copy", x.copy(d, a), model.copy(d, a));
            case 5 -> due(at + "neg", x.neg(d), model.neg(d));
            case 6 -> due(at + "add", x.add(d, a, b), model.add(d, a, b));
            case 7 -> due(at + "sub", x.sub(d, a, b), model.sub(d, a, b));
            case 8, 9 -> due(at + "mul", x.mul(d, a, b), model.mul(d, a, b));
            case 10, 11 -> {
                due(at + "divMod", x.divMod(d, c, a, b), model.divMod(d, c, a, b));
                look(at + "divMod ", c);
            }
            case 12, 13 -> { n = shift(); due(at + "shl " + n, x.shl(d, a, n), model.shl(d, a, n)); }
            case 14 -> { n = shift(); due(at + "shr " + n, x.shr(d, a, n), model.shr(d, a, n)); }
            case 15 -> due(at + "gcd", x.gcd(d, a, b), model.gcd(d, a, b));
            case 16 -> due(at + "powMod", x.powMod(d, a, b, c), model.powMod(d, a, b, c));
            case 17 -> due(at + "root", x.root(d, a), model.root(d, a));
            case 18 -> due(at + "cmp", x.cmp(a, b), model.cmp(a, b));
            case 19 -> texts(at, a);
            case 20, 21 -> typed(at);
            case 22 -> due(at + "read", x.read(d), model.read(d));
            default -> { n = random.nextInt(5) - 2; due(at + "length " + n, x.length(a, n), model.length(a, n)); }
        }
        look(at, d);
    }

    private void pushes(String at, int r) {
        for (int k = random.nextInt(5); k >= 0 && calls < MOST_CALLS - 8; k--) {
            int n = number();
            due(at + "push", x.push(r, n), model.push(r, n));
        }
    }

    private void texts(String at, int r) {
        due(at + "write", x.write(r), model.write(r));
        for (int k = 0; k < 3; k++) {
            int i = random.nextInt(10 * width + 4) - 2;
            due(at + "written " + i, x.written(i), model.written(i));
        }
    }

    private void typed(String at) {
        for (int k = random.nextInt(6); k >= 0 && calls < MOST_CALLS - 8; k--) {
            String text = TEXTS[random.nextInt(random.nextInt(4) == 0 ? TEXTS.length : 8)];
            long bytes = random.nextLong();
            for (int i = 0; i < text.length(); i++) {
                bytes = bytes << 8 | text.charAt(i);
            }
            int n = random.nextInt(30) == 0 ? random.nextInt(12) - 1 : text.length();
            due(at + "type", x.type(bytes, n), model.type(bytes, n));
        }
    }

    private void look(String at, int r) {
        due(at + "sign after it", x.sign(r), model.sign(r));
        due(at + "bits after it", x.length(r, 1), model.length(r, 1));
        int i = random.nextInt(Math.max(1, model.length(r, 0)) + 1);
        due(at + "limb after it", x.limb(r, i), model.limb(r, i));
    }
}
