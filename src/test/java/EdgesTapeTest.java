import java.math.BigInteger;
import java.nio.charset.StandardCharsets;

/** The sentences of promises 21 and 22 that name a boundary. */
public final class EdgesTapeTest {
    private static final BigInteger ONE = BigInteger.ONE;
    private static final int LEAST = Integer.MIN_VALUE;
    private static final int MOST = Integer.MAX_VALUE;
    private static final int MOST_BYTES = 1300;
    private static final long EIGHT_ZEROS = 0x3030303030303030L;

    public static void main(String[] args) {
        highestFirst();
        lowestBytesAlone();
        howManyItHas();
        anotherN();
        tapeFull();
        anotherNBeforeFull();
        signThenDigits();
        oneDigitOrMore();
        firstWrongPlace();
        sizeWhenMoreMustCome();
        everyShortText();
        everyByte();
        longTexts();
        badAndTheTapeStays();
        emptyThen();
        lastNumberThatHasRoom();
        readFull();
        wrongPlaceBeforeFull();
        Check.end();
    }

    private static long bytes(String text) {
        long bytes = 0;
        for (int i = 0; i < text.length(); i++) {
            bytes = bytes << 8 | text.charAt(i);
        }
        return bytes;
    }

    /** A tape with so many zeros. */
    private static IntFile zeros(int many, int width) {
        IntFile x = new IntFile(2, width, 4);
        int typed = 0;
        while (typed < many) {
            int n = Math.min(8, many - typed);
            typed += n;
            Check.due("zeros", x.type(EIGHT_ZEROS, n), typed);
        }
        return x;
    }

    private static void highestFirst() {
        Check.sentence("21: The lowest n bytes (1 .. 8), the highest of these first");
        for (int n = 1; n <= 8; n++) {
            IntFile x = new IntFile(1, 3, 4);
            Check.due("type of " + n, x.type(bytes("12345678".substring(0, n)), n), n);
            Check.due("read of " + n, x.read(0), 0);
            Check.holds("read of " + n, x, 0, Long.parseLong("12345678".substring(0, n)));
        }
    }

    private static void lowestBytesAlone() {
        Check.sentence("21: The lowest n bytes");
        for (int n = 1; n <= 8; n++) {
            for (long above : new long[] {0, -1, 0x7877767574737271L, Long.MIN_VALUE, Long.MAX_VALUE}) {
                long mask = n == 8 ? -1 : (1L << 8 * n) - 1;
                IntFile x = new IntFile(1, 3, 4);
                Check.due("type of " + n, x.type(above & ~mask | bytes("98765432") & mask, n), n);
                Check.due("read of " + n, x.read(0), 0);
                Check.holds("read of " + n, x, 0, Long.parseLong("98765432".substring(8 - n)));
            }
        }
    }

    private static void howManyItHas() {
        Check.sentence("21: come to the TAPE: how many it has");
        IntFile x = new IntFile(1, 3, 4);
        int due = 0;
        StringBuilder text = new StringBuilder();
        for (int n : new int[] {1, 8, 2, 7, 3, 6}) {
            due += n;
            text.append("87654321", 8 - n, 8);
            Check.due("type of " + n, x.type(bytes("87654321"), n), due);
        }
        Check.due("read", x.read(0), 0);
        Check.holds("they come behind what is there", x, 0, new BigInteger(text.toString()));
        Check.due("how many after a read", x.type(bytes("12"), 2), 2);
    }

    private static void anotherN() {
        Check.sentence("21: BAD: another n");
        Scene s = Scene.of(2, -5, 6);
        for (int n : new int[] {LEAST, LEAST + 1, -8, -1, 0, 9, 10, 16, 257, MOST}) {
            s.refused("type of " + n, s.x.type(bytes("11111111"), n), IntFile.BAD);
        }
        s.endsWithItsTape();
        IntFile x = new IntFile(1, 1, 4);
        Check.due("on an empty tape", x.type(bytes("1"), 0), IntFile.BAD);
        Check.due("on an empty tape", x.type(bytes("1"), 9), IntFile.BAD);
        Check.due("it is empty still", x.read(0), -10);
    }

    private static void tapeFull() {
        Check.sentence("21: FULL: there would be more than 1300");
        for (int before = MOST_BYTES - 9; before <= MOST_BYTES; before++) {
            for (int n = 1; n <= 8; n++) {
                IntFile x = zeros(before, 1);
                boolean full = before + n > MOST_BYTES;
                Check.due(n + " bytes behind " + before, x.type(bytes("00000007"), n), full ? IntFile.FULL : before + n);
                if (full && before < MOST_BYTES) {
                    Check.due("one has room yet", x.type('8', 1), before + 1);
                }
                Check.due("read", x.read(1), 0);
                Check.holds("what was refused is not there", x, 1, !full ? 7 : before < MOST_BYTES ? 8 : 0);
                Check.holds("the other register", x, 0, 0);
            }
        }
    }

    private static void anotherNBeforeFull() {
        Check.sentence("21: BAD: another n (before FULL)");
        IntFile x = zeros(MOST_BYTES, 1);
        for (int n : new int[] {LEAST, -1, 0, 9, MOST}) {
            Check.due("type of " + n, x.type(0, n), IntFile.BAD);
        }
        Check.due("type of 1", x.type('1', 1), IntFile.FULL);
        Check.due("read", x.read(0), 0);
        Check.due("type after it", x.type('1', 1), 1);
    }

    private static void reads(String text, String due) {
        IntFile x = new IntFile(2, 3, 4);
        x.set(0, -77);
        Check.typeText(x, text);
        Check.due("read of " + text, x.read(1), 0);
        Check.holds("read of " + text, x, 1, new BigInteger(due));
        Check.holds("the other register", x, 0, -77);
        Check.due("the tape after " + text, x.type('1', 1), 1);
    }

    private static void signThenDigits() {
        Check.sentence("22: perhaps + or -, then one digit or more: 0, a register is that number");
        reads("0", "0");
        reads("+0", "0");
        reads("-0", "0");
        reads("-00000000000", "0");
        reads("7", "7");
        reads("+7", "7");
        reads("-7", "-7");
        reads("0123456789", "123456789");
        reads("-000000000000000000012", "-12");
        reads("+999999999", "999999999");
        reads("1000000000", "1000000000");
        reads("-1000000000000000000", "-1000000000000000000");
        reads("4294967295", "4294967295");
        reads("-4294967296", "-4294967296");
        for (int digits = 1; digits <= 28; digits++) {
            reads("1" + "0".repeat(digits), BigInteger.TEN.pow(digits).toString());
            reads("-" + "9".repeat(digits), BigInteger.TEN.pow(digits).subtract(ONE).negate().toString());
            reads("0".repeat(digits) + "5", "5");
        }
    }

    private static void oneDigitOrMore() {
        Check.sentence("22: then one digit or more (a sign alone is no text)");
        wrong("+", 1);
        wrong("-", 1);
        wrong("", 0);
    }

    private static void wrong(String text, int place) {
        Scene s = Scene.of(1, -77, 5);
        s.x.read(0);
        s.x.set(0, -77);
        Check.typeText(s.x, text);
        Check.due("read of '" + text + "'", s.x.read(0), -10 - place);
        Check.holds("after '" + text + "'", s.x, 0, -77);
        Check.holds("after '" + text + "'", s.x, 1, 5);
        Check.due("written after '" + text + "'", s.x.written(2), '7');
        Check.due("the tape after '" + text + "'", s.x.type('3', 1), 1);
        Check.due("read after it", s.x.read(0), 0);
        Check.holds("read after it", s.x, 0, 3);
    }

    private static void firstWrongPlace() {
        Check.sentence("22: -10 less the first place with which no text goes on so");
        wrong("x", 0);
        wrong(" 1", 0);
        wrong("x+1", 0);
        wrong("++", 1);
        wrong("+-1", 1);
        wrong("-+1", 1);
        wrong("--1", 1);
        wrong("- 1", 1);
        wrong("1+", 1);
        wrong("1-", 1);
        wrong("1 ", 1);
        wrong("0x10", 1);
        wrong("1.5", 1);
        wrong("-1-", 2);
        wrong("+12e3x", 3);
        wrong("12345678/", 8);
        wrong("12345678:", 8);
        wrong("1234567\u0000", 7);
        wrong("1234567\u00B1", 7);
    }

    private static void sizeWhenMoreMustCome() {
        Check.sentence("22: (its size, when more must come)");
        IntFile x = new IntFile(1, 1, 4);
        Check.due("read of an empty tape", x.read(0), -10);
        Check.due("once more", x.read(0), -10);
        x.type('-', 1);
        Check.due("read of -", x.read(0), -11);
        Check.due("it is empty then", x.read(0), -10);
        x.type('+', 1);
        Check.due("read of +", x.read(0), -11);
        Check.holds("after these", x, 0, 0);
    }

    /** The words of the document once more, for every text of up to four bytes of these. */
    private static void everyShortText() {
        Check.sentence("22: every text of up to four of + - 0 9 / : and others");
        String letters = "+-09/:,.a\u00B0";
        everyTextFrom("", letters);
    }

    private static void everyTextFrom(String text, String letters) {
        int place = placeThatIsWrong(text);
        IntFile x = new IntFile(1, 1, 4);
        Check.typeText(x, text);
        Check.due("read of '" + text + "'", x.read(0), place < 0 ? 0 : -10 - place);
        Check.holds("read of '" + text + "'", x, 0, place < 0 ? Long.parseLong(text) : 0);
        if (text.length() < 4) {
            for (int k = 0; k < letters.length(); k++) {
                everyTextFrom(text + letters.charAt(k), letters);
            }
        }
    }

    private static int placeThatIsWrong(String text) {
        if (text.matches("[+-]?[0-9]+")) {
            return -1;
        }
        int good = 0;
        while (good < text.length() && text.substring(0, good + 1).matches("[+-]?[0-9]*")) {
            good++;
        }
        return good;
    }

    private static void everyByte() {
        Check.sentence("22: the first place with which no text goes on so, for every byte");
        for (int b = 0; b < 256; b++) {
            String one = new String(new byte[] {(byte) b}, StandardCharsets.ISO_8859_1);
            for (String text : new String[] {one, "1" + one, "-" + one, one + "1", "12" + one + "3"}) {
                int place = placeThatIsWrong(text);
                IntFile x = new IntFile(1, 1, 4);
                x.type(bytes(text), text.length());
                Check.due("read with byte " + b, x.read(0), place < 0 ? 0 : -10 - place);
            }
        }
    }

    private static void longTexts() {
        Check.sentence("22: The TAPE .. is read as a decimal text (of 1300 bytes)");
        IntFile x = zeros(MOST_BYTES - 1, 1);
        x.type('7', 1);
        Check.due("1299 zeros and 7", x.read(0), 0);
        Check.holds("1299 zeros and 7", x, 0, 7);
        IntFile y = zeros(MOST_BYTES - 1, 1);
        y.type('x', 1);
        Check.due("a wrong byte at its end", y.read(0), -10 - 1299);
        IntFile z = new IntFile(1, 120, 4);
        Check.typeText(z, "-" + "0".repeat(143) + Check.most(120));
        Check.due("as many as it has", z.type('0', 1), IntFile.FULL);
        Check.due("- and zeros and the greatest", z.read(0), 0);
        Check.holds("- and zeros and the greatest", z, 0, Check.most(120).negate());
    }

    private static void badAndTheTapeStays() {
        Check.sentence("22: BAD (the TAPE stays)");
        for (String text : new String[] {"12", "-", "", "x", "99999999999"}) {
            Scene s = Scene.of(1, 7, -8);
            s.x.read(0);
            s.x.set(0, 7);
            Check.typeText(s.x, text);
            for (int r : new int[] {LEAST, -1, 2, 3, 12, MOST}) {
                Check.due("read of '" + text + "' to " + r, s.x.read(r), IntFile.BAD);
            }
            Check.holds("after BAD", s.x, 0, 7);
            Check.holds("after BAD", s.x, 1, -8);
            Check.due("written after BAD", s.x.written(0), '7');
            Check.due("the tape goes on", s.x.type('3', 1), text.length() + 1);
            int due = text.equals("x") ? -10 : text.length() > 9 ? IntFile.FULL : 0;
            Check.due("read of '" + text + "3'", s.x.read(0), due);
            Check.holds("read of '" + text + "3'", s.x, 0, due == 0 ? Long.parseLong(text + "3") : 7);
        }
        IntFile x = zeros(MOST_BYTES, 1);
        Check.due("read of a full tape to none", x.read(2), IntFile.BAD);
        Check.due("it is full still", x.type('1', 1), IntFile.FULL);
    }

    private static void emptyThen() {
        Check.sentence("22: The TAPE, which is empty then");
        String tooGreat = Check.two(32).toString();
        for (String text : new String[] {"12", "-12", "x", "-", "12x", tooGreat, "-" + tooGreat}) {
            IntFile x = new IntFile(1, 1, 4);
            Check.typeText(x, text);
            x.read(0);
            Check.due("read after '" + text + "'", x.read(0), -10);
            Check.due("type after '" + text + "'", x.type(bytes("45"), 2), 2);
            Check.due("read after '" + text + "' and 45", x.read(0), 0);
            Check.holds("read after '" + text + "' and 45", x, 0, 45);
        }
        IntFile x = zeros(MOST_BYTES, 1);
        Check.due("read of a full tape", x.read(0), 0);
        Check.due("type after it", x.type(EIGHT_ZEROS, 8), 8);
    }

    private static void lastNumberThatHasRoom() {
        Check.sentence("22: 0, a register is that number (the last one that has ROOM)");
        for (int width = 1; width <= 120; width += width < 12 ? 1 : 9) {
            BigInteger most = Check.most(width);
            for (String text : new String[] {most.toString(), "+" + most, "-" + most, "000" + most, most.subtract(ONE).toString()}) {
                IntFile x = new IntFile(1, width, 4);
                Check.typeText(x, text);
                Check.due("read of " + text, x.read(0), 0);
                Check.holds("read of " + text, x, 0, new BigInteger(text));
            }
        }
    }

    private static void readFull() {
        Check.sentence("22: FULL");
        for (int width = 1; width <= 120; width += width < 12 ? 1 : 9) {
            BigInteger over = Check.two(32 * width);
            String[] texts = {
                over.toString(), "+" + over, "-" + over, "000" + over, over.add(ONE).toString(),
                over.multiply(BigInteger.TEN).toString(), over.shiftLeft(32).toString(), "-" + over.shiftLeft(32).subtract(ONE),
                "9".repeat(MOST_BYTES), "-" + "9".repeat(MOST_BYTES - 1)};
            for (String text : texts) {
                IntFile x = new IntFile(2, width, 4);
                x.set(0, -5);
                Check.load(x, 1, Check.most(width));
                x.write(0);
                Check.typeText(x, text);
                Check.due("read of " + text, x.read(0), IntFile.FULL);
                Check.holds("after FULL", x, 0, -5);
                Check.holds("after FULL", x, 1, Check.most(width));
                Check.due("written after FULL", x.written(1), '5');
            }
        }
    }

    private static void wrongPlaceBeforeFull() {
        Check.sentence("22: -10 less the first place with which no text goes on so (of a number that has no ROOM)");
        String over = Check.two(32).toString();
        wrong(over + "x", 10);
        wrong("-" + over + "-", 11);
        wrong("9".repeat(100) + " ", 100);
        wrong("9".repeat(100) + "x" + "9".repeat(100), 100);
        IntFile x = new IntFile(1, 1, 4);
        Check.typeText(x, "9".repeat(MOST_BYTES - 1) + "x");
        Check.due("1299 digits and a wrong byte", x.read(0), -10 - 1299);
        Check.holds("1299 digits and a wrong byte", x, 0, 0);
    }
}
