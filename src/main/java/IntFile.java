import java.util.Arrays;

/**
 * A file of registers that hold whole numbers of any sign, exactly, up to a width.
 *
 * <p>Every call works in rows that the constructor made and puts its outcome last. So registers that are named may be
 * one and the same, a call that is refused has changed nothing, and no call makes an object.
 */
public final class IntFile {
    public static final int BAD = -1;
    public static final int NO = -2;
    public static final int FULL = -3;

    /** What cmp and sign answer of a register that is none: BAD is one of their ordinary answers. */
    private static final int NONE = 2;
    private static final int WRONG_TEXT = -10;
    private static final int MOST_EXPONENT_LIMBS = 2;
    /** Far above what two numbers of 120 limbs can need: some 5,600 steps of Euclid's, or 16 of Newton's. */
    private static final int MOST_STEPS = 1_000_000;

    private final int width;
    private final Whole[] file;
    private final Whole result;
    private final Whole first;
    private final Whole second;
    private final Products products;
    private final Division division;
    private final Text text;
    private final Tape tape;

    public IntFile(int registers, int width, int cut) {
        this.width = nearest(width, 1, 120);
        file = new Whole[nearest(registers, 1, 12)];
        for (int r = 0; r < file.length; r++) {
            file[r] = new Whole(this.width);
        }
        result = new Whole(2 * this.width + 1);
        first = new Whole(this.width);
        second = new Whole(this.width);
        products = new Products(this.width, nearest(cut, 4, 60));
        division = new Division(this.width);
        text = new Text(this.width);
        tape = new Tape();
    }

    public int set(int r, int x) {
        if (isNone(r)) {
            return BAD;
        }
        file[r].becomeInt(x);
        return 0;
    }

    public int push(int r, int w) {
        if (isNone(r)) {
            return BAD;
        }
        result.becomePushed(file[r], w);
        return put(r);
    }

    public int copy(int d, int a) {
        if (isNone(d) || isNone(a)) {
            return BAD;
        }
        file[d].become(file[a]);
        return 0;
    }

    public int neg(int r) {
        if (isNone(r)) {
            return BAD;
        }
        file[r].turnSign();
        return 0;
    }

    public int add(int d, int a, int b) {
        if (isNone(d) || isNone(a) || isNone(b)) {
            return BAD;
        }
        result.becomeSum(file[a], file[b], file[b].below);
        return put(d);
    }

    public int sub(int d, int a, int b) {
        if (isNone(d) || isNone(a) || isNone(b)) {
            return BAD;
        }
        result.becomeSum(file[a], file[b], !file[b].below);
        return put(d);
    }

    public int mul(int d, int a, int b) {
        if (isNone(d) || isNone(a) || isNone(b)) {
            return BAD;
        }
        // A product has as many limbs as its factors together, or one less: many need not be made to be refused.
        if (!file[a].isZero() && !file[b].isZero() && file[a].count + file[b].count - 1 > width) {
            return FULL;
        }
        products.product(result, file[a], file[b]);
        return put(d);
    }

    public int divMod(int q, int m, int a, int b) {
        if (isNone(q) || isNone(m) || isNone(a) || isNone(b)) {
            return BAD;
        }
        if (file[b].isZero() || q == m) {
            return NO;
        }
        division.divide(file[a], file[b]);
        file[q].become(division.quotient);
        file[m].become(division.rest);
        return 0;
    }

    public int shl(int d, int a, int n) {
        if (isNone(d) || isNone(a)) {
            return BAD;
        }
        if (n < 0) {
            return NO;
        }
        if (file[a].isZero()) {
            file[d].becomeInt(0);
            return 0;
        }
        if ((long) file[a].bits() + n > (long) width * Whole.LIMB_BITS) {
            return FULL;
        }
        result.becomeShiftedUp(file[a], n);
        return put(d);
    }

    public int shr(int d, int a, int n) {
        if (isNone(d) || isNone(a)) {
            return BAD;
        }
        if (n < 0) {
            return NO;
        }
        result.becomeShiftedDown(file[a], n);
        return put(d);
    }

    public int gcd(int d, int a, int b) {
        if (isNone(d) || isNone(a) || isNone(b)) {
            return BAD;
        }
        first.become(file[a]);
        second.become(file[b]);
        for (int step = 0; step < MOST_STEPS && !second.isZero(); step++) {
            division.divide(first, second);
            first.become(second);
            second.become(division.rest);
        }
        first.below = false;
        file[d].become(first);
        return 0;
    }

    public int powMod(int d, int a, int e, int m) {
        if (isNone(d) || isNone(a) || isNone(e) || isNone(m)) {
            return BAD;
        }
        if (file[m].below || file[m].isZero() || file[e].below || file[e].count > MOST_EXPONENT_LIMBS) {
            return NO;
        }
        reduceToFirst(file[a], file[m]);
        oneToSecond(file[m]);
        for (int bit = file[e].bits() - 1; bit >= 0; bit--) {
            multiplySecond(second, file[m]);
            if (file[e].hasBit(bit)) {
                multiplySecond(first, file[m]);
            }
        }
        file[d].become(second);
        return 0;
    }

    public int root(int d, int a) {
        if (isNone(d) || isNone(a)) {
            return BAD;
        }
        if (file[a].below) {
            return NO;
        }
        rootToFirst(file[a]);
        file[d].become(first);
        return 0;
    }

    public int cmp(int a, int b) {
        if (isNone(a) || isNone(b)) {
            return NONE;
        }
        return file[a].compareValue(file[b]);
    }

    public int sign(int r) {
        if (isNone(r)) {
            return NONE;
        }
        return file[r].side();
    }

    public int length(int r, int what) {
        if (isNone(r) || what < 0 || what > 1) {
            return BAD;
        }
        return what == 0 ? file[r].count : file[r].bits();
    }

    public int limb(int r, int i) {
        if (isNone(r) || i < 0 || i >= file[r].count) {
            return 0;
        }
        return file[r].limbs[i];
    }

    public int write(int r) {
        if (isNone(r)) {
            return BAD;
        }
        text.print(file[r], result);
        return text.size();
    }

    public int written(int i) {
        if (i < 0 || i >= text.size()) {
            return BAD;
        }
        return text.at(i);
    }

    public int type(long bytes, int n) {
        if (n < 1 || n > 8) {
            return BAD;
        }
        if (!tape.hasRoomFor(n)) {
            return FULL;
        }
        tape.append(bytes, n);
        return tape.count;
    }

    public int read(int r) {
        if (isNone(r)) {
            return BAD;
        }
        int wrong = tape.firstWrongPlace();
        if (wrong < 0) {
            tape.spell(result, width);
        }
        tape.count = 0;
        return wrong < 0 ? put(r) : WRONG_TEXT - wrong;
    }

    private static int nearest(int x, int least, int most) {
        return Math.max(least, Math.min(most, x));
    }

    private boolean isNone(int r) {
        return r < 0 || r >= file.length;
    }

    private int put(int d) {
        if (result.count > width) {
            return FULL;
        }
        file[d].become(result);
        return 0;
    }

    private void reduceToFirst(Whole a, Whole m) {
        division.divide(a, m);
        if (division.rest.below) {
            first.becomeSum(m, division.rest, true);
        } else {
            first.become(division.rest);
        }
    }

    /** Reduced like all powers, since modulo 1 even the power with exponent 0 is 0. */
    private void oneToSecond(Whole m) {
        second.becomeInt(1);
        division.divide(second, m);
        second.become(division.rest);
    }

    private void multiplySecond(Whole by, Whole m) {
        products.product(result, second, by);
        division.divide(result, m);
        second.become(division.rest);
    }

    /** Newton's steps: they fall from any start that is not below the root, and stop falling at it. */
    private void rootToFirst(Whole a) {
        if (a.isZero()) {
            first.becomeInt(0);
            return;
        }
        first.becomePowerOfTwo((a.bits() + 1) / 2);
        for (int step = 0; step < MOST_STEPS; step++) {
            division.divide(a, first);
            result.becomeSum(first, division.quotient, false);
            second.becomeShiftedDown(result, 1);
            if (second.compareSize(first) >= 0) {
                break;
            }
            first.become(second);
        }
    }

    /** A whole number: its size in limbs, the lowest first, without leading zeros, and whether it is below 0. */
    private static final class Whole {
        static final int LIMB_BITS = 32;
        static final long LOW = 0xFFFF_FFFFL;

        final int[] limbs;
        int count;
        boolean below;

        Whole(int mostLimbs) {
            limbs = new int[mostLimbs];
            count = 0;
            below = false;
        }

        boolean isZero() {
            return count == 0;
        }

        int side() {
            if (count == 0) {
                return 0;
            }
            return below ? -1 : 1;
        }

        void turnSign() {
            below = !below && count > 0;
        }

        int bits() {
            if (count == 0) {
                return 0;
            }
            return count * LIMB_BITS - Integer.numberOfLeadingZeros(limbs[count - 1]);
        }

        boolean hasBit(int bit) {
            int i = bit / LIMB_BITS;
            return i < count && (limbs[i] >>> (bit % LIMB_BITS) & 1) != 0;
        }

        int compareValue(Whole other) {
            if (below != other.below) {
                return below ? -1 : 1;
            }
            return below ? other.compareSize(this) : compareSize(other);
        }

        int compareSize(Whole other) {
            if (count != other.count) {
                return count < other.count ? -1 : 1;
            }
            for (int i = count - 1; i >= 0; i--) {
                if (limbs[i] != other.limbs[i]) {
                    return (limbs[i] & LOW) < (other.limbs[i] & LOW) ? -1 : 1;
                }
            }
            return 0;
        }

        /** What stands in the first limbs is the size now: every change ends here, so 0 never has a sign or a limb. */
        void settle(int mostLimbs, boolean isBelow) {
            count = mostLimbs;
            while (count > 0 && limbs[count - 1] == 0) {
                count--;
            }
            below = isBelow && count > 0;
        }

        void become(Whole other) {
            System.arraycopy(other.limbs, 0, limbs, 0, other.count);
            count = other.count;
            below = other.below;
        }

        void becomeInt(int x) {
            // As a long, since the least int has no opposite among the ints.
            limbs[0] = (int) Math.abs((long) x);
            settle(1, x < 0);
        }

        void becomePowerOfTwo(int bit) {
            int top = bit / LIMB_BITS;
            Arrays.fill(limbs, 0, top, 0);
            limbs[top] = 1 << (bit % LIMB_BITS);
            settle(top + 1, false);
        }

        void becomePushed(Whole a, int lowest) {
            System.arraycopy(a.limbs, 0, limbs, 1, a.count);
            limbs[0] = lowest;
            settle(a.count + 1, a.below);
        }

        /** The sum of a and of b's size with the sign that is told, so that one method serves sums and differences. */
        void becomeSum(Whole a, Whole b, boolean isBelowB) {
            if (a.below == isBelowB) {
                addSizes(a, b);
                settle(Math.max(a.count, b.count) + 1, isBelowB);
            } else if (a.compareSize(b) >= 0) {
                subtractSizes(a, b);
                settle(a.count, a.below);
            } else {
                subtractSizes(b, a);
                settle(b.count, isBelowB);
            }
        }

        private void addSizes(Whole a, Whole b) {
            int most = Math.max(a.count, b.count);
            long carry = 0;
            for (int i = 0; i < most; i++) {
                long sum = a.limbOrZero(i) + b.limbOrZero(i) + carry;
                limbs[i] = (int) sum;
                carry = sum >>> LIMB_BITS;
            }
            limbs[most] = (int) carry;
        }

        private void subtractSizes(Whole greater, Whole smaller) {
            long borrow = 0;
            for (int i = 0; i < greater.count; i++) {
                long left = greater.limbOrZero(i) - smaller.limbOrZero(i) - borrow;
                limbs[i] = (int) left;
                borrow = left < 0 ? 1 : 0;
            }
        }

        private long limbOrZero(int i) {
            return i < count ? limbs[i] & LOW : 0;
        }

        void becomeShiftedUp(Whole a, int n) {
            int skip = n / LIMB_BITS;
            Arrays.fill(limbs, 0, skip, 0);
            limbs[skip + a.count] = shiftUp(a, n % LIMB_BITS, limbs, skip);
            settle(skip + a.count + 1, a.below);
        }

        /** Shifts by less than a limb; answers what goes over the highest limb, which not every row has room for. */
        static int shiftUp(Whole from, int bits, int[] to, int at) {
            long carry = 0;
            for (int i = 0; i < from.count; i++) {
                long shifted = (from.limbs[i] & LOW) << bits | carry;
                to[at + i] = (int) shifted;
                carry = shifted >>> LIMB_BITS;
            }
            return (int) carry;
        }

        void becomeShiftedDown(Whole a, int n) {
            int skip = Math.min(n / LIMB_BITS, a.count);
            shiftDown(a.limbs, skip, a.count - skip, n % LIMB_BITS);
            settle(a.count - skip, a.below);
            if (a.below && a.hasOneBelow(n)) {
                // The size is cut towards 0, and rounding down leads away from 0 here.
                scaleAndAdd(1, 1);
                below = true;
            }
        }

        /** Shifts so many limbs of a row, by less than a limb, to the lowest place here. */
        void shiftDown(int[] from, int at, int many, int bits) {
            long above = 0;
            for (int i = many - 1; i >= 0; i--) {
                long here = from[at + i] & LOW;
                limbs[i] = (int) ((above << LIMB_BITS | here) >>> bits);
                above = here;
            }
        }

        private boolean hasOneBelow(int n) {
            int whole = Math.min(n / LIMB_BITS, count);
            for (int i = 0; i < whole; i++) {
                if (limbs[i] != 0) {
                    return true;
                }
            }
            return whole < count && (limbs[whole] & ((1 << (n % LIMB_BITS)) - 1)) != 0;
        }

        /** Neither factor nor more is below 0; one limb more than the number has must be there. */
        void scaleAndAdd(int factor, int more) {
            long carry = more;
            for (int i = 0; i < count; i++) {
                long scaled = (limbs[i] & LOW) * factor + carry;
                limbs[i] = (int) scaled;
                carry = scaled >>> LIMB_BITS;
            }
            if (carry != 0 && count < limbs.length) {
                limbs[count] = (int) carry;
                count++;
            }
        }

        /** Divides its size by a number above 0 and answers what is left. */
        int divideAndRest(int by) {
            if (by <= 0) {
                return 0;
            }
            long left = 0;
            for (int i = count - 1; i >= 0; i--) {
                long here = left << LIMB_BITS | (limbs[i] & LOW);
                limbs[i] = (int) (here / by);
                left = here % by;
            }
            settle(count, below);
            return (int) left;
        }
    }

    /** Products: limb by limb, or of long factors by three products of half the size. */
    private static final class Products {
        /** Factors of 120 limbs are below any cut after seven halvings. */
        private static final int MOST_DEPTH = 8;

        private final int cut;
        /** One row for the factors, the product and all between: a place in it is one parameter instead of two. */
        private final int[] row;
        private final int left;
        private final int right;
        private final int outcome;
        private final int free;

        Products(int width, int cut) {
            this.cut = cut;
            left = 0;
            right = width;
            outcome = 2 * width;
            free = 4 * width;
            row = new int[free + roomForHalves(width)];
        }

        private static int roomForHalves(int width) {
            int room = 0;
            int many = width;
            for (int depth = 0; depth < MOST_DEPTH; depth++) {
                many = (many + 1) / 2 + 1;
                room += 4 * many;
            }
            return room;
        }

        void product(Whole to, Whole a, Whole b) {
            Whole longer = a.count >= b.count ? a : b;
            Whole shorter = a.count >= b.count ? b : a;
            System.arraycopy(longer.limbs, 0, row, left, longer.count);
            System.arraycopy(shorter.limbs, 0, row, right, shorter.count);
            multiply(left, longer.count, right, shorter.count, outcome, free, MOST_DEPTH);
            int many = longer.count + shorter.count;
            System.arraycopy(row, outcome, to.limbs, 0, many);
            to.settle(many, a.below != b.below);
        }

        /** The factor x has never fewer limbs than y; the product at z gets as many as they have together. */
        private void multiply(int x, int xMany, int y, int yMany, int z, int spare, int depth) {
            // Three products save work only if both factors have a higher half.
            boolean bothSplit = yMany > (xMany + 1) / 2;
            if (depth > 0 && yMany >= cut && bothSplit) {
                multiplyByThree(x, xMany, y, yMany, z, spare, depth);
            } else {
                multiplyLong(x, xMany, y, yMany, z);
            }
        }

        private void multiplyLong(int x, int xMany, int y, int yMany, int z) {
            Arrays.fill(row, z, z + xMany + yMany, 0);
            for (int j = 0; j < yMany; j++) {
                long factor = row[y + j] & Whole.LOW;
                long carry = 0;
                for (int i = 0; i < xMany; i++) {
                    long sum = (row[x + i] & Whole.LOW) * factor + (row[z + i + j] & Whole.LOW) + carry;
                    row[z + i + j] = (int) sum;
                    carry = sum >>> Whole.LIMB_BITS;
                }
                row[z + xMany + j] = (int) carry;
            }
        }

        /** The middle is the product of the sums of the halves, less the product of the lower and of the higher ones. */
        private void multiplyByThree(int x, int xMany, int y, int yMany, int z, int spare, int depth) {
            int half = (xMany + 1) / 2;
            int wide = half + 1;
            int high = z + 2 * half;
            int highMany = xMany + yMany - 2 * half;
            int sumY = spare + wide;
            int middle = spare + 2 * wide;
            multiply(x, half, y, half, z, spare, depth - 1);
            multiply(x + half, xMany - half, y + half, yMany - half, high, spare, depth - 1);
            sumHalves(x, xMany, half, spare);
            sumHalves(y, yMany, half, sumY);
            multiply(spare, wide, sumY, wide, middle, spare + 4 * wide, depth - 1);
            subtractAt(middle, 2 * wide, z, 2 * half);
            subtractAt(middle, 2 * wide, high, highMany);
            // Above the product's end the middle has only zeros.
            int toEnd = highMany + half;
            addAt(z + half, toEnd, middle, Math.min(2 * wide, toEnd));
        }

        private void sumHalves(int x, int many, int half, int to) {
            System.arraycopy(row, x, row, to, half);
            row[to + half] = 0;
            addAt(to, half + 1, x + half, many - half);
        }

        /** Adds the second number to the first, which has as many limbs at least. */
        private void addAt(int to, int toMany, int from, int many) {
            long carry = 0;
            for (int i = 0; i < many; i++) {
                long sum = (row[to + i] & Whole.LOW) + (row[from + i] & Whole.LOW) + carry;
                row[to + i] = (int) sum;
                carry = sum >>> Whole.LIMB_BITS;
            }
            for (int i = many; i < toMany && carry != 0; i++) {
                row[to + i]++;
                carry = row[to + i] == 0 ? 1 : 0;
            }
        }

        /** Takes the second number away from the first, which has as many limbs at least. */
        private void subtractAt(int to, int toMany, int from, int many) {
            long borrow = 0;
            for (int i = 0; i < many; i++) {
                long rest = (row[to + i] & Whole.LOW) - (row[from + i] & Whole.LOW) - borrow;
                row[to + i] = (int) rest;
                borrow = rest < 0 ? 1 : 0;
            }
            for (int i = many; i < toMany && borrow != 0; i++) {
                row[to + i]--;
                borrow = row[to + i] == -1 ? 1 : 0;
            }
        }
    }

    /** Long division, after Knuth's algorithm D. */
    private static final class Division {
        private static final long HIGHEST_BIT = 1L << 63;

        final Whole quotient;
        final Whole rest;
        /** The dividend, of which each step takes its part away, until the rest stands there. */
        private final int[] over;
        private final int[] under;

        Division(int width) {
            quotient = new Whole(2 * width);
            rest = new Whole(width);
            over = new int[2 * width + 1];
            under = new int[width];
        }

        /** Cuts the quotient towards 0; the rest has the sign of a. The caller has looked that b is not 0. */
        void divide(Whole a, Whole b) {
            if (b.isZero()) {
                quotient.becomeInt(0);
                rest.becomeInt(0);
            } else if (a.compareSize(b) < 0) {
                quotient.becomeInt(0);
                rest.become(a);
            } else if (b.count == 1) {
                divideByLimb(a, b);
            } else {
                divideLong(a, b);
            }
        }

        private void divideByLimb(Whole a, Whole b) {
            long by = b.limbs[0] & Whole.LOW;
            long left = 0;
            for (int i = a.count - 1; i >= 0; i--) {
                long here = left << Whole.LIMB_BITS | (a.limbs[i] & Whole.LOW);
                long digit = divideUnsigned(here, by);
                quotient.limbs[i] = (int) digit;
                left = here - digit * by;
            }
            quotient.settle(a.count, a.below != b.below);
            rest.limbs[0] = (int) left;
            rest.settle(1, a.below);
        }

        private void divideLong(Whole a, Whole b) {
            // Only with the divisor's highest bit set is a guessed digit sure to be near.
            int bits = Integer.numberOfLeadingZeros(b.limbs[b.count - 1]);
            over[a.count] = Whole.shiftUp(a, bits, over, 0);
            Whole.shiftUp(b, bits, under, 0);
            for (int j = a.count - b.count; j >= 0; j--) {
                long digit = guessDigit(j + b.count, b.count);
                if (takeProduct(digit, j, b.count)) {
                    digit--;
                    giveBack(j, b.count);
                }
                quotient.limbs[j] = (int) digit;
            }
            quotient.settle(a.count - b.count + 1, a.below != b.below);
            rest.shiftDown(over, 0, b.count, bits);
            rest.settle(b.count, a.below);
        }

        /** From the three highest limbs, of which the first stands at top, and the divisor's two: 1 too great at most. */
        private long guessDigit(int top, int many) {
            long highest = under[many - 1] & Whole.LOW;
            long next = under[many - 2] & Whole.LOW;
            long ahead = over[top] & Whole.LOW;
            long two = ahead << Whole.LIMB_BITS | (over[top - 1] & Whole.LOW);
            long third = over[top - 2] & Whole.LOW;
            long digit = ahead >= highest ? Whole.LOW : divideUnsigned(two, highest);
            long left = two - digit * highest;
            for (int k = 0; k < 2 && left <= Whole.LOW; k++) {
                if (!isAbove(digit * next, left << Whole.LIMB_BITS | third)) {
                    break;
                }
                digit--;
                left += highest;
            }
            return digit;
        }

        /** Answers whether more was taken than there was. No later step looks at the limb above: it stays as it is. */
        private boolean takeProduct(long digit, int j, int many) {
            long carry = 0;
            for (int i = 0; i < many; i++) {
                long product = (under[i] & Whole.LOW) * digit + carry;
                long left = (over[j + i] & Whole.LOW) - (product & Whole.LOW);
                over[j + i] = (int) left;
                carry = (product >>> Whole.LIMB_BITS) + (left < 0 ? 1 : 0);
            }
            return (over[j + many] & Whole.LOW) < carry;
        }

        private void giveBack(int j, int many) {
            long carry = 0;
            for (int i = 0; i < many; i++) {
                long sum = (over[j + i] & Whole.LOW) + (under[i] & Whole.LOW) + carry;
                over[j + i] = (int) sum;
                carry = sum >>> Whole.LIMB_BITS;
            }
        }

        private static boolean isAbove(long x, long y) {
            return (x ^ HIGHEST_BIT) > (y ^ HIGHEST_BIT);
        }

        /** The dividend is without sign; the divisor is one limb. Half the dividend has a sign bit to spare. */
        private static long divideUnsigned(long x, long limb) {
            if (limb <= 0) {
                return 0;
            }
            long digit = (x >>> 1) / limb << 1;
            return x - digit * limb >= limb ? digit + 1 : digit;
        }
    }

    /** The decimal text that was written last, at the end of its row, since digits come from the lowest on. */
    private static final class Text {
        private static final int CHUNK = 1_000_000_000;
        static final int CHUNK_DIGITS = 9;
        private static final int MOST_DIGITS_OF_LIMB = 10;

        private final byte[] bytes;
        private int start;

        Text(int width) {
            bytes = new byte[width * MOST_DIGITS_OF_LIMB + 1];
            start = bytes.length;
        }

        int size() {
            return bytes.length - start;
        }

        int at(int i) {
            return bytes[start + i];
        }

        void print(Whole value, Whole left) {
            left.become(value);
            start = bytes.length;
            int digits = left.divideAndRest(CHUNK);
            for (int chunk = 0; chunk < bytes.length && !left.isZero(); chunk++) {
                prependDigits(digits, CHUNK_DIGITS);
                digits = left.divideAndRest(CHUNK);
            }
            prependDigits(digits, 1);
            if (value.below) {
                prepend('-');
            }
        }

        private void prependDigits(int digits, int least) {
            int left = digits;
            for (int k = 0; k < CHUNK_DIGITS && (k < least || left > 0); k++) {
                prepend('0' + left % 10);
                left /= 10;
            }
        }

        private void prepend(int c) {
            if (start > 0) {
                start--;
                bytes[start] = (byte) c;
            }
        }
    }

    /** What was typed and not yet read. */
    private static final class Tape {
        private static final int MOST = 1300;

        private final byte[] bytes;
        int count;

        Tape() {
            bytes = new byte[MOST];
            count = 0;
        }

        boolean hasRoomFor(int n) {
            return count + n <= MOST;
        }

        void append(long more, int n) {
            for (int k = n - 1; k >= 0; k--) {
                bytes[count] = (byte) (more >>> (8 * k));
                count++;
            }
        }

        /** The first place with which no number goes on so, or the size if a digit is missing there; -1 if it is one. */
        int firstWrongPlace() {
            int digits = digitsBegin();
            for (int i = digits; i < count; i++) {
                if (bytes[i] < '0' || bytes[i] > '9') {
                    return i;
                }
            }
            return digits == count ? count : -1;
        }

        private int digitsBegin() {
            return count > 0 && (bytes[0] == '+' || bytes[0] == '-') ? 1 : 0;
        }

        /** Stops as soon as there are more limbs than width: further digits only make it greater. */
        void spell(Whole to, int width) {
            to.becomeInt(0);
            int chunk = 0;
            int scale = 1;
            for (int i = digitsBegin(); i < count && to.count <= width; i++) {
                chunk = chunk * 10 + (bytes[i] - '0');
                scale *= 10;
                // Chunks are counted from the end, so that only the first one may be short.
                if ((count - 1 - i) % Text.CHUNK_DIGITS == 0) {
                    to.scaleAndAdd(scale, chunk);
                    chunk = 0;
                    scale = 1;
                }
            }
            to.below = !to.isZero() && bytes[0] == '-';
        }
    }
}
