import java.math.BigInteger;

/** Promise 4. */
public final class CopyTest {
    public static void main(String[] args) {
        IntFile x = new IntFile(3, 4, 4);
        BigInteger value = new BigInteger("-340282366920938463463374607431768211455");
        Check.load(x, 0, value);
        Check.due("copy", x.copy(2, 0), 0);
        Check.holds("copied", x, 2, value);
        Check.holds("copied from", x, 0, value);
        Check.holds("not named", x, 1, 0);
        Check.due("copy to itself", x.copy(0, 0), 0);
        Check.holds("copied to itself", x, 0, value);
        Check.due("set", x.set(0, 7), 0);
        Check.holds("a copy is no second name", x, 2, value);
        Check.due("copy over longer", x.copy(2, 0), 0);
        Check.holds("copied over longer", x, 2, 7);
        Check.due("copy 0", x.copy(2, 1), 0);
        Check.holds("copied 0", x, 2, 0);
        Check.due("copy to none", x.copy(3, 0), IntFile.BAD);
        Check.due("copy to -1", x.copy(-1, 0), IntFile.BAD);
        Check.due("copy of none", x.copy(0, 3), IntFile.BAD);
        Check.due("copy of -1", x.copy(0, -1), IntFile.BAD);
        Check.holds("after BAD", x, 0, 7);
        Check.end();
    }
}
