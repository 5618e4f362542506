import java.math.BigInteger;
import java.util.Random;

/** Promises 19 and 20. */
public final class WriteTest {
    public static void main(String[] args) {
        String[] texts = {
            "0", "1", "-1", "9", "10", "-10", "99", "100", "999999999", "1000000000", "-1000000001", "4294967295", "-4294967295",
            "4294967296", "999999999999999999", "1000000000000000000", "-1000000000000000001", "5000000000000000007",
            "18446744073709551615", "-18446744073709551616", "79228162514264337593543950335", "-79228162514264337593543950335"};
        for (String text : texts) {
            written(text, 3);
        }
        powersOfTen();
        longest();
        eachWrite();
        refused();
        Check.end();
    }

    private static void written(String text, int width) {
        IntFile x = new IntFile(2, width, 4);
        Check.load(x, 1, text);
        Check.writes(x, 1, text);
        Check.holds("what was written", x, 1, new BigInteger(text));
    }

    private static void powersOfTen() {
        for (int digits = 1; digits < 150; digits++) {
            BigInteger power = BigInteger.TEN.pow(digits);
            written(power.toString(), 16);
            written(power.subtract(BigInteger.ONE).negate().toString(), 16);
        }
        Random random = new Random(19);
        for (int round = 0; round < 200; round++) {
            written(new BigInteger(random.nextInt(1000), random).toString(), 32);
        }
    }

    /** The text has 1157 bytes, more than an object has calls: every fourth one is looked at. */
    private static void longest() {
        String text = Check.two(3840).subtract(BigInteger.ONE).negate().toString();
        for (int start = 0; start < 4; start++) {
            IntFile x = new IntFile(1, 120, 4);
            Check.load(x, 0, text);
            Check.due("bytes of the longest", x.write(0), text.length());
            for (int i = start; i < text.length(); i += 4) {
                Check.due("byte " + i + " of the longest", x.written(i), text.charAt(i));
            }
            Check.due("behind the longest", x.written(text.length()), IntFile.BAD);
        }
    }

    private static void eachWrite() {
        IntFile x = new IntFile(2, 3, 4);
        Check.due("nothing yet", x.written(0), IntFile.BAD);
        x.set(0, -12345);
        Check.writes(x, 0, "-12345");
        x.set(0, 6);
        Check.due("the text is not the register", x.written(0), '-');
        Check.due("write of none", x.write(2), IntFile.BAD);
        Check.due("it stays when a write is refused", x.written(5), '5');
        Check.writes(x, 0, "6");
        Check.due("the longer one is gone", x.written(1), IntFile.BAD);
        Check.writes(x, 1, "0");
    }

    private static void refused() {
        IntFile x = new IntFile(2, 3, 4);
        for (int r : new int[] {-1, 2, 2147483647, -2147483648}) {
            Check.due("write of none", x.write(r), IntFile.BAD);
        }
        Check.due("nothing was written", x.written(0), IntFile.BAD);
        x.set(0, 42);
        x.write(0);
        for (int i : new int[] {-1, 2, 3, 1300, 2147483647, -2147483648}) {
            Check.due("byte " + i, x.written(i), IntFile.BAD);
        }
    }
}
