import java.math.BigInteger;
import java.util.Random;

/** Promise 22. */
public final class ReadTest {
    public static void main(String[] args) {
        numbers();
        wrongTexts();
        edgesOfRoom();
        everyByte();
        longTexts();
        tapeStaysWhenBad();
        Check.end();
    }

    private static void numbers() {
        String[] texts = {
            "0", "+0", "-0", "-000", "1", "+1", "-1", "0042", "-0042", "+0042", "999999999", "1000000000", "-1000000000",
            "123456789012345678", "4294967295", "4294967296", "-18446744073709551616", "+79228162514264337593543950335",
            "-79228162514264337593543950335", "00000000000000000000000000000000000000000000000079228162514264337593543950335"};
        IntFile x = new IntFile(2, 3, 4);
        for (String text : texts) {
            Check.typeText(x, text);
            Check.due("read of " + text, x.read(1), 0);
            Check.holds("read of " + text, x, 1, new BigInteger(text));
            Check.holds("the other register", x, 0, 0);
        }
    }

    private static void wrong(String text, int place) {
        IntFile x = new IntFile(1, 1, 4);
        x.set(0, -77);
        Check.typeText(x, text);
        Check.due("read of '" + text + "'", x.read(0), -10 - place);
        Check.holds("read of '" + text + "'", x, 0, -77);
        Check.due("the tape is empty after '" + text + "'", x.type('5', 1), 1);
        Check.due("read after it", x.read(0), 0);
        Check.holds("read after it", x, 0, 5);
    }

    private static void wrongTexts() {
        wrong("", 0);
        wrong("+", 1);
        wrong("-", 1);
        wrong("++1", 1);
        wrong("-+1", 1);
        wrong("--", 1);
        wrong(" 1", 0);
        wrong("1 ", 1);
        wrong("-1-", 2);
        wrong("12+3", 2);
        wrong("x", 0);
        wrong("1x2y", 1);
        wrong("1234567890123456789012345678901234567890/", 40);
        wrong("-99999999999999999999999999999999999999999999:1", 45);
        wrong("1.5", 1);
    }

    private static void edgesOfRoom() {
        for (int width : new int[] {1, 2, 3, 59, 120}) {
            BigInteger over = Check.two(32 * width);
            IntFile x = new IntFile(1, width, 4);
            x.set(0, -3);
            Check.typeText(x, over.toString());
            Check.due("read of 2^" + 32 * width, x.read(0), IntFile.FULL);
            Check.holds("read of 2^" + 32 * width, x, 0, -3);
            Check.due("the tape is empty after FULL", x.type('5', 1), 1);
            Check.due("read after FULL", x.read(0), 0);
            BigInteger most = over.subtract(BigInteger.ONE).negate();
            Check.typeText(x, most.toString());
            Check.due("read of the most", x.read(0), 0);
            Check.holds("read of the most", x, 0, most);
        }
    }

    private static void everyByte() {
        for (int b = 0; b < 256; b++) {
            IntFile x = new IntFile(1, 1, 4);
            boolean digit = b >= '0' && b <= '9';
            boolean sign = b == '+' || b == '-';
            x.type(b, 1);
            Check.due("read of byte " + b, x.read(0), digit ? 0 : sign ? -11 : -10);
            x.type('1' << 8 | b, 2);
            Check.due("read of 1 and byte " + b, x.read(0), digit ? 0 : -11);
        }
    }

    private static void longTexts() {
        IntFile x = new IntFile(1, 120, 4);
        Check.typeText(x, "9".repeat(1300));
        Check.due("1300 digits", x.read(0), IntFile.FULL);
        Check.typeText(x, "9".repeat(1299) + "x");
        Check.due("a wrong place before FULL", x.read(0), -10 - 1299);
        Random random = new Random(22);
        for (int round = 0; round < 100; round++) {
            BigInteger value = new BigInteger(random.nextInt(3840), random);
            value = round % 2 == 0 ? value : value.negate();
            IntFile y = new IntFile(1, 120, 4);
            Check.typeText(y, value.toString());
            Check.due("read of " + value, y.read(0), 0);
            Check.holds("read of " + value, y, 0, value);
        }
    }

    private static void tapeStaysWhenBad() {
        IntFile x = new IntFile(2, 1, 4);
        Check.typeText(x, "-12");
        for (int r : new int[] {-1, 2, 2147483647, -2147483648}) {
            Check.due("read to none", x.read(r), IntFile.BAD);
        }
        Check.due("it goes on", x.type('3', 1), 4);
        Check.due("read", x.read(1), 0);
        Check.holds("read", x, 1, -123);
        Check.due("read of nothing", x.read(1), -10);
        Check.holds("read of nothing", x, 1, -123);
    }
}
