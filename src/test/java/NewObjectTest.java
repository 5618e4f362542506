import java.math.BigInteger;

/** Promise 1. */
public final class NewObjectTest {
    public static void main(String[] args) {
        registers(-2147483648, 1);
        registers(0, 1);
        registers(1, 1);
        registers(2, 2);
        registers(11, 11);
        registers(12, 12);
        registers(13, 12);
        registers(2147483647, 12);
        width(-2147483648, 1);
        width(0, 1);
        width(1, 1);
        width(2, 2);
        width(119, 119);
        width(120, 120);
        width(121, 120);
        width(2147483647, 120);
        int[] cuts = {-2147483648, 0, 3, 4, 5, 7, 17, 31, 59, 60, 61, 2147483647};
        for (int cut : cuts) {
            cutIsNotSeen(cut);
        }
        firstState();
        Check.end();
    }

    private static void registers(int asked, int due) {
        IntFile x = new IntFile(asked, 3, 4);
        String what = "with " + asked + " registers ";
        for (int r = 0; r < due; r++) {
            Check.due(what + "sign " + r, x.sign(r), 0);
        }
        Check.due(what + "sign " + due, x.sign(due), 2);
        Check.due(what + "sign -1", x.sign(-1), 2);
        Check.due(what + "set " + (due - 1), x.set(due - 1, 5), 0);
        Check.due(what + "set " + due, x.set(due, 5), IntFile.BAD);
    }

    private static void width(int asked, int due) {
        IntFile x = new IntFile(1, asked, 4);
        for (int i = 0; i < due; i++) {
            Check.due("width " + asked + ", push " + i, x.push(0, 7), 0);
        }
        Check.due("width " + asked + ", a push too many", x.push(0, 7), IntFile.FULL);
        Check.due("width " + asked + ", length", x.length(0, 0), due);
    }

    private static void cutIsNotSeen(int cut) {
        IntFile x = new IntFile(3, 120, cut);
        BigInteger a = Check.two(60 * 32).subtract(BigInteger.ONE);
        BigInteger b = Check.two(59 * 32 + 5).subtract(BigInteger.TEN);
        Check.load(x, 0, a);
        Check.load(x, 1, b);
        Check.due("cut " + cut + ", mul", x.mul(2, 0, 1), 0);
        Check.holds("cut " + cut, x, 2, a.multiply(b));
    }

    private static void firstState() {
        IntFile x = new IntFile(3, 3, 4);
        for (int r = 0; r < 3; r++) {
            Check.holds("new", x, r, 0);
        }
        Check.due("nothing is written at first", x.written(0), IntFile.BAD);
        Check.due("nothing is on the tape at first", x.type('1', 1), 1);
    }
}
