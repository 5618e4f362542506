/** Promise 2. */
public final class SetTest {
    public static void main(String[] args) {
        int[] values = {0, 1, -1, 42, -42, 2147483647, -2147483647, -2147483648};
        for (int width = 1; width <= 3; width++) {
            IntFile x = new IntFile(2, width, 4);
            for (int value : values) {
                Check.due("set " + value, x.set(1, value), 0);
                Check.holds("set " + value, x, 1, value);
                Check.holds("the other register", x, 0, 0);
            }
        }
        afterLonger();
        wrongRegisters();
        Check.end();
    }

    private static void afterLonger() {
        IntFile x = new IntFile(1, 3, 4);
        Check.load(x, 0, "-79228162514264337593543950335");
        Check.due("set after three limbs", x.set(0, 9), 0);
        Check.holds("set after three limbs", x, 0, 9);
        Check.due("push after set", x.push(0, 0), 0);
        Check.holds("push after set", x, 0, 9L << 32);
    }

    private static void wrongRegisters() {
        IntFile x = new IntFile(2, 3, 4);
        int[] none = {-1, 2, 12, 2147483647, -2147483648};
        for (int r : none) {
            Check.due("set of none", x.set(r, 1), IntFile.BAD);
        }
        Check.holds("after wrong sets", x, 0, 0);
        Check.holds("after wrong sets", x, 1, 0);
    }
}
