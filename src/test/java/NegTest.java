/** Promise 5. */
public final class NegTest {
    public static void main(String[] args) {
        IntFile x = new IntFile(2, 2, 4);
        Check.due("neg of 0", x.neg(0), 0);
        Check.holds("neg of 0", x, 0, 0);
        Check.due("push to it", x.push(0, 3), 0);
        Check.holds("0 kept no sign", x, 0, 3);
        Check.due("neg of 3", x.neg(0), 0);
        Check.holds("neg of 3", x, 0, -3);
        Check.due("neg of -3", x.neg(0), 0);
        Check.holds("neg of -3", x, 0, 3);
        Check.due("set", x.set(1, -2147483648), 0);
        Check.due("neg of the least int", x.neg(1), 0);
        Check.holds("neg of the least int", x, 1, 2147483648L);
        Check.due("neg of none", x.neg(2), IntFile.BAD);
        Check.due("neg of -1", x.neg(-1), IntFile.BAD);
        Check.holds("after BAD", x, 0, 3);
        Check.end();
    }
}
