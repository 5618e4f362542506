/** Promise 21. */
public final class TypeTest {
    public static void main(String[] args) {
        order();
        eachCount();
        edgeOfRoom();
        fullByOnes();
        refused();
        Check.end();
    }

    private static void order() {
        IntFile x = new IntFile(1, 3, 4);
        Check.due("the highest first", x.type(0x31323334L, 4), 4);
        Check.due("only the lowest", x.type(0x3939393939393536L, 2), 6);
        Check.due("read", x.read(0), 0);
        Check.holds("the order of bytes", x, 0, 123456);
        Check.due("the highest bit", x.type(0x8031323334353637L, 7), 7);
        Check.due("read", x.read(0), 0);
        Check.holds("without the highest", x, 0, 1234567);
    }

    private static void eachCount() {
        IntFile x = new IntFile(1, 3, 4);
        long due = 0;
        for (int n = 1; n <= 8; n++) {
            due += n;
            Check.due("type of " + n, x.type(0x3132333435363738L, n), due);
        }
        Check.due("read", x.read(0), IntFile.FULL);
        Check.due("the tape is empty then", x.type('1', 1), 1);
    }

    private static void edgeOfRoom() {
        IntFile x = new IntFile(2, 120, 4);
        for (int k = 1; k <= 162; k++) {
            Check.due("type " + k, x.type(0x3030303030303030L, 8), 8 * k);
        }
        Check.due("five more", x.type(0x3030303030L, 5), IntFile.FULL);
        Check.due("eight more", x.type(0x3030303030303030L, 8), IntFile.FULL);
        Check.due("another n before FULL", x.type(0, 9), IntFile.BAD);
        Check.due("four more", x.type(0x30303037L, 4), 1300);
        Check.due("one more", x.type('9', 1), IntFile.FULL);
        Check.due("read of none", x.read(2), IntFile.BAD);
        Check.due("still full", x.type('9', 1), IntFile.FULL);
        Check.due("read", x.read(0), 0);
        Check.holds("1300 digits", x, 0, 7);
        Check.due("empty then", x.type('9', 1), 1);
    }

    private static void fullByOnes() {
        IntFile x = new IntFile(1, 120, 4);
        for (int k = 0; k < 161; k++) {
            x.type(0x3030303030303030L, 8);
        }
        for (int k = 1289; k <= 1300; k++) {
            Check.due("type to " + k, x.type('0', 1), k);
        }
        Check.due("type to 1301", x.type('0', 1), IntFile.FULL);
    }

    private static void refused() {
        IntFile x = new IntFile(1, 3, 4);
        for (int n : new int[] {0, -1, 9, 2147483647, -2147483648}) {
            Check.due("type of " + n, x.type(0x3132333435363738L, n), IntFile.BAD);
        }
        Check.due("nothing was typed", x.type('1', 1), 1);
    }
}
