import java.math.BigInteger;
import java.nio.charset.StandardCharsets;
import java.util.Arrays;

/** The document once more, over BigInteger, to be compared with in long runs of calls. */
final class Model {
    final BigInteger[] file;
    final int width;
    private String text = "";
    private byte[] tape = new byte[0];

    Model(int registers, int width) {
        file = new BigInteger[Math.max(1, Math.min(12, registers))];
        Arrays.fill(file, BigInteger.ZERO);
        this.width = Math.max(1, Math.min(120, width));
    }

    private boolean none(int... named) {
        for (int r : named) {
            if (r < 0 || r >= file.length) {
                return true;
            }
        }
        return false;
    }

    private int put(int d, BigInteger value) {
        if (value.abs().bitLength() > 32 * width) {
            return IntFile.FULL;
        }
        file[d] = value;
        return 0;
    }

    int set(int r, int x) {
        return none(r) ? IntFile.BAD : put(r, BigInteger.valueOf(x));
    }

    int push(int r, int w) {
        if (none(r)) {
            return IntFile.BAD;
        }
        BigInteger size = file[r].abs().shiftLeft(32).add(BigInteger.valueOf(w & 0xFFFFFFFFL));
        return put(r, file[r].signum() < 0 ? size.negate() : size);
    }

    int copy(int d, int a) {
        return none(d, a) ? IntFile.BAD : put(d, file[a]);
    }

    int neg(int r) {
        return none(r) ? IntFile.BAD : put(r, file[r].negate());
    }

    int add(int d, int a, int b) {
        return none(d, a, b) ? IntFile.BAD : put(d, file[a].add(file[b]));
    }

    int sub(int d, int a, int b) {
        return none(d, a, b) ? IntFile.BAD : put(d, file[a].subtract(file[b]));
    }

    int mul(int d, int a, int b) {
        return none(d, a, b) ? IntFile.BAD : put(d, file[a].multiply(file[b]));
    }

    int divMod(int q, int m, int a, int b) {
        if (none(q, m, a, b)) {
            return IntFile.BAD;
        }
        if (file[b].signum() == 0 || q == m) {
            return IntFile.NO;
        }
        BigInteger[] both = file[a].divideAndRemainder(file[b]);
        file[q] = both[0];
        file[m] = both[1];
        return 0;
    }

    int shl(int d, int a, int n) {
        if (none(d, a)) {
            return IntFile.BAD;
        }
        if (n < 0) {
            return IntFile.NO;
        }
        if (file[a].signum() != 0 && n > 32 * width) {
            return IntFile.FULL;
        }
        return put(d, file[a].signum() == 0 ? BigInteger.ZERO : file[a].shiftLeft(n));
    }

    int shr(int d, int a, int n) {
        if (none(d, a)) {
            return IntFile.BAD;
        }
        return n < 0 ? IntFile.NO : put(d, file[a].shiftRight(n));
    }

    int gcd(int d, int a, int b) {
        return none(d, a, b) ? IntFile.BAD : put(d, file[a].gcd(file[b]));
    }

    int powMod(int d, int a, int e, int m) {
        if (none(d, a, e, m)) {
            return IntFile.BAD;
        }
        if (file[m].signum() <= 0 || file[e].signum() < 0 || file[e].bitLength() > 64) {
            return IntFile.NO;
        }
        return put(d, file[a].modPow(file[e], file[m]));
    }

    int root(int d, int a) {
        if (none(d, a)) {
            return IntFile.BAD;
        }
        return file[a].signum() < 0 ? IntFile.NO : put(d, file[a].sqrt());
    }

    int cmp(int a, int b) {
        return none(a, b) ? 2 : file[a].compareTo(file[b]);
    }

    int sign(int r) {
        return none(r) ? 2 : file[r].signum();
    }

    int length(int r, int what) {
        if (none(r) || what != 0 && what != 1) {
            return IntFile.BAD;
        }
        int bits = file[r].abs().bitLength();
        return what == 1 ? bits : (bits + 31) / 32;
    }

    int limb(int r, int i) {
        return none(r) || i < 0 || i > 200 ? 0 : file[r].abs().shiftRight(32 * i).intValue();
    }

    int write(int r) {
        if (none(r)) {
            return IntFile.BAD;
        }
        text = file[r].toString();
        return text.length();
    }

    int written(int i) {
        return i < 0 || i >= text.length() ? IntFile.BAD : text.charAt(i);
    }

    int type(long bytes, int n) {
        if (n < 1 || n > 8) {
            return IntFile.BAD;
        }
        if (tape.length + n > 1300) {
            return IntFile.FULL;
        }
        int before = tape.length;
        tape = Arrays.copyOf(tape, before + n);
        for (int k = 0; k < n; k++) {
            tape[before + k] = (byte) (bytes >>> 8 * (n - 1 - k));
        }
        return tape.length;
    }

    int read(int r) {
        if (none(r)) {
            return IntFile.BAD;
        }
        String typed = new String(tape, StandardCharsets.ISO_8859_1);
        tape = new byte[0];
        if (typed.matches("[+-]?[0-9]+")) {
            return put(r, new BigInteger(typed));
        }
        int good = 0;
        while (good < typed.length() && typed.substring(0, good + 1).matches("[+-]?[0-9]*")) {
            good++;
        }
        return -10 - good;
    }
}
