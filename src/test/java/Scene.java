import java.math.BigInteger;

/** An object whose registers, text and tape are all known, so that it shows what a call has changed, and what not. */
final class Scene {
    private static final int ALL = -1;
    /** An object has 512 calls: of so many limbs not every one is looked at, nor every byte of their text. */
    private static final int MANY_LIMBS = 100;
    private static final int TOO_MANY_LIMBS = 250;

    final IntFile x;
    private final BigInteger[] due;
    private final String text;
    private int typed;

    /** The text of register 0 is written, and the tape has zeros. */
    Scene(int width, BigInteger... values) {
        x = new IntFile(values.length, width, 4);
        due = values.clone();
        for (int r = 0; r < due.length; r++) {
            Check.load(x, r, due[r]);
        }
        text = due[0].toString();
        x.write(0);
        typed = 2;
        x.type('+' << 8 | '0', 2);
    }

    static Scene of(int width, long... values) {
        BigInteger[] all = new BigInteger[values.length];
        for (int r = 0; r < all.length; r++) {
            all[r] = BigInteger.valueOf(values[r]);
        }
        return new Scene(width, all);
    }

    void refused(String call, int got, int want) {
        Check.due(call, got, want);
        unchanged(call, ALL);
    }

    void done(String call, int got, int d, BigInteger value) {
        Check.due(call, got, 0);
        due[d] = value;
        unchanged(call, d);
    }

    /** Looks at the register that was put, or that could have been, limb by limb. */
    private void unchanged(String call, int put) {
        String what = "after " + call;
        int limbs = limbsOfAll();
        for (int r = 0; r < due.length; r++) {
            if (limbs > TOO_MANY_LIMBS && r != put && put != ALL) {
                Check.holdsAtItsEnds(what, x, r, due[r]);
            } else {
                Check.holds(what, x, r, due[r]);
            }
        }
        for (int i = 0; i < Math.min(text.length(), limbs > MANY_LIMBS ? 2 : 40); i++) {
            Check.due(what + ": written " + i, x.written(i), text.charAt(i));
        }
        Check.due(what + ": written behind its end", x.written(text.length()), IntFile.BAD);
        typed++;
        Check.due(what + ": one byte more on the tape", x.type('0', 1), typed);
    }

    private int limbsOfAll() {
        int limbs = 0;
        for (BigInteger value : due) {
            limbs += Check.limbsOf(value).length;
        }
        return limbs;
    }

    /** What the tape has can only be seen by reading it. */
    void endsWithItsTape() {
        Check.due("a last byte on the tape", x.type('7', 1), typed + 1);
        Check.due("read of the tape", x.read(0), 0);
        Check.holds("read of the tape", x, 0, 7);
    }
}
