/** Promise 3. */
public final class PushTest {
    public static void main(String[] args) {
        IntFile x = new IntFile(2, 2, 4);
        Check.due("0 pushed to 0", x.push(0, 0), 0);
        Check.holds("0 pushed to 0", x, 0, 0);
        Check.due("-1 pushed to 0", x.push(0, -1), 0);
        Check.holds("-1 pushed to 0", x, 0, 0xFFFFFFFFL);
        Check.due("0 pushed to it", x.push(0, 0), 0);
        Check.holds("0 pushed to it", x, 0, Check.two(64).subtract(Check.two(32)));
        Check.due("a third limb", x.push(0, 0), IntFile.FULL);
        Check.holds("after FULL", x, 0, Check.two(64).subtract(Check.two(32)));
        Check.due("set", x.set(1, -3), 0);
        Check.due("pushed below 0", x.push(1, 5), 0);
        Check.holds("pushed below 0", x, 1, -(3L << 32) - 5);
        Check.due("a third limb below 0", x.push(1, 5), IntFile.FULL);
        Check.holds("after FULL below 0", x, 1, -(3L << 32) - 5);
        Check.due("set 0 after below 0", x.set(1, 0), 0);
        Check.due("push to it", x.push(1, 8), 0);
        Check.holds("0 is above 0 then", x, 1, 8);
        Check.due("push to -1", x.push(-1, 8), IntFile.BAD);
        Check.due("push to 2", x.push(2, 8), IntFile.BAD);
        narrowest();
        Check.end();
    }

    private static void narrowest() {
        IntFile x = new IntFile(1, 1, 4);
        Check.due("0 to 0 at width 1", x.push(0, 0), 0);
        Check.due("1 to 0 at width 1", x.push(0, 1), 0);
        Check.due("0 to 1 at width 1", x.push(0, 0), IntFile.FULL);
        Check.holds("width 1", x, 0, 1);
    }
}
