import java.math.BigInteger;

/** The sentences of promises 19 and 20 that name a boundary. */
public final class EdgesTextsTest {
    private static final BigInteger ONE = BigInteger.ONE;
    private static final int LEAST = Integer.MIN_VALUE;
    private static final int MOST = Integer.MAX_VALUE;
    private static final int[] NONE = {-1, 2, 3, 12, MOST, LEAST};

    public static void main(String[] args) {
        minusBelowZero();
        zero();
        noLeadingZeros();
        longestTexts();
        writeChangesNoRegister();
        writeOfNone();
        writtenLast();
        textStays();
        nothingWritten();
        noSuchByte();
        Check.end();
    }

    private static void writes(String text, int width) {
        IntFile x = new IntFile(1, width, 4);
        Check.load(x, 0, text);
        Check.writes(x, 0, text);
    }

    private static void minusBelowZero() {
        Check.sentence("19: Its decimal text (- before it, if it is below 0 ..): how many bytes");
        String[] texts = {"1", "-1", "9", "-9", "10", "-10", "2147483647", "2147483648", "-2147483648", "4294967295", "-4294967295"};
        for (String text : texts) {
            writes(text, 1);
        }
        for (String text : new String[] {"4294967296", "-4294967296", "18446744073709551615", "-18446744073709551615"}) {
            writes(text, 2);
        }
    }

    private static void zero() {
        Check.sentence("19: Its decimal text (of 0)");
        writes("0", 1);
        writes("0", 120);
        IntFile x = new IntFile(2, 3, 4);
        x.set(0, -5);
        Check.writes(x, 0, "-5");
        x.sub(0, 0, 0);
        Check.writes(x, 0, "0");
        x.neg(0);
        Check.writes(x, 0, "0");
    }

    /** Zeros within a text stay, wherever they stand: at each power of ten, and one below and above it. */
    private static void noLeadingZeros() {
        Check.sentence("19: no leading zeros");
        for (int digits = 1; digits <= 120; digits++) {
            BigInteger power = BigInteger.TEN.pow(digits);
            for (BigInteger value : new BigInteger[] {power, power.subtract(ONE), power.add(ONE), power.multiply(Check.big(42))}) {
                writes(value.toString(), 13);
                writes(value.negate().toString(), 13);
            }
        }
        for (String text : new String[] {"1000000000000000001", "7000000000000000000", "1000000001", "900000000000000000500000000"}) {
            writes(text, 3);
            writes("-" + text, 3);
        }
    }

    /** A long text has more bytes than an object has calls: each object shows every fourth of them. */
    private static void longestTexts() {
        Check.sentence("19: Its decimal text (of the greatest that has ROOM)");
        for (int width : new int[] {1, 2, 3, 4, 9, 28, 60, 119, 120}) {
            longest(Check.most(width), width);
            longest(Check.most(width).negate(), width);
        }
    }

    private static void longest(BigInteger value, int width) {
        String text = value.toString();
        for (int start = 0; start < 4; start++) {
            IntFile x = new IntFile(1, width, 4);
            Check.load(x, 0, value);
            Check.due("bytes of " + value, x.write(0), text.length());
            for (int i = start; i < text.length(); i += 4) {
                Check.due("byte " + i + " of " + value, x.written(i), text.charAt(i));
            }
            Check.due("last byte of " + value, x.written(text.length() - 1), text.charAt(text.length() - 1));
            Check.due("byte behind " + value, x.written(text.length()), IntFile.BAD);
        }
    }

    private static void writeChangesNoRegister() {
        Check.sentence("19: write changes nothing but what is WRITTEN");
        IntFile x = new IntFile(2, 3, 4);
        Check.load(x, 0, Check.most(3).negate());
        Check.load(x, 1, "1000000000");
        x.type('-' << 8 | '4', 2);
        Check.due("write", x.write(0), 30);
        Check.due("write", x.write(1), 10);
        Check.holds("written", x, 0, Check.most(3).negate());
        Check.holds("written", x, 1, 1000000000L);
        Check.due("the tape", x.type('2', 1), 3);
        Check.due("the tape", x.read(1), 0);
        Check.holds("the tape", x, 1, -42);
    }

    private static void writeOfNone() {
        Check.sentence("19: BAD");
        Scene s = Scene.of(2, -12345, 67);
        for (int r : NONE) {
            s.refused("write of " + r, s.x.write(r), IntFile.BAD);
        }
        s.endsWithItsTape();
    }

    private static void writtenLast() {
        Check.sentence("20: Byte i of what was WRITTEN last");
        IntFile x = new IntFile(2, 3, 4);
        x.set(0, -12345);
        x.set(1, 678);
        Check.writes(x, 0, "-12345");
        Check.writes(x, 1, "678");
        Check.writes(x, 0, "-12345");
        x.set(0, 9);
        Check.writes(x, 0, "9");
        Check.due("a byte of the one before", x.written(1), IntFile.BAD);
        Check.due("once more", x.written(0), '9');
    }

    /** What is written does not follow the registers, and no other call uses its place. */
    private static void textStays() {
        Check.sentence("20: Byte i of what was WRITTEN last, whatever is done after it");
        IntFile x = new IntFile(4, 8, 4);
        Check.load(x, 0, Check.most(8).negate());
        x.set(1, -98765);
        x.set(2, 1000);
        x.write(1);
        x.copy(1, 0);
        x.neg(1);
        x.push(2, 5);
        x.add(3, 0, 2);
        x.sub(3, 3, 2);
        x.mul(3, 2, 2);
        x.divMod(3, 2, 0, 2);
        x.shl(3, 3, 5);
        x.shr(3, 3, 9);
        x.gcd(3, 0, 3);
        x.set(2, 77);
        x.powMod(3, 0, 2, 1);
        x.root(3, 1);
        x.cmp(0, 1);
        x.type(0x3131313131313131L, 8);
        x.read(3);
        x.type('x', 1);
        x.read(3);
        x.write(4);
        String text = "-98765";
        for (int i = 0; i < text.length(); i++) {
            Check.due("byte " + i, x.written(i), text.charAt(i));
        }
        Check.due("behind it", x.written(text.length()), IntFile.BAD);
    }

    private static void nothingWritten() {
        Check.sentence("20: BAD: there is none (nothing was WRITTEN yet)");
        for (int width : new int[] {1, 120}) {
            IntFile x = new IntFile(2, width, 4);
            x.set(0, 5);
            x.type('1', 1);
            Check.due("write of none", x.write(2), IntFile.BAD);
            for (int i : new int[] {LEAST, -1, 0, 1, 10, 11, 1201, 1300, MOST}) {
                Check.due("byte " + i, x.written(i), IntFile.BAD);
            }
        }
    }

    private static void noSuchByte() {
        Check.sentence("20: BAD: there is none");
        for (String text : new String[] {"0", "7", "-7", "4294967295", "-4294967295"}) {
            Scene s = new Scene(1, new BigInteger(text), ONE);
            for (int i : new int[] {LEAST, LEAST + 1, -2, -1, text.length(), text.length() + 1, 1300, MOST - 1, MOST}) {
                s.refused("byte " + i + " of " + text, s.x.written(i), IntFile.BAD);
            }
            s.endsWithItsTape();
        }
    }
}
