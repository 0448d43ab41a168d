import java.util.Arrays;

/**
 * Whole numbers that are exact, up to 512 bits: read from digits, reckoned with, compared, cut to
 * the numbers of a machine, written as digits.
 *
 * <p>A number is held as its size (the number without its sign) and whether it is below 0. A size
 * is a row of limbs of 32 bits, the lowest first; each limb stands in a long, so that sums and
 * products of limbs need no care for Java's signs. Every call reckons in the rows that the
 * constructor made and only then stores into a slot: so a slot may be source and target at once,
 * it stays as it was when the number is too great, and no call makes an object.
 */
public final class ExactNumbers {
    public static final int FINE = 0, GREAT = 1, ZERO = 2, WRONG = 3;

    private static final int SLOTS = 64;
    private static final int MOST_BITS = 512;
    private static final int LIMB_BITS = 32;
    private static final int LIMBS = MOST_BITS / LIMB_BITS;
    private static final long LIMB_MASK = 0xFFFFFFFFL;

    private static final int WORD_BITS = 64;
    private static final int WORD_BYTES = 8;
    private static final int MOST_DIGITS = 1000;
    private static final int MOST_SHIFT = 1000;
    private static final int LEAST_BASE = 2;
    private static final int MOST_BASE = 36;
    private static final int NO_DIGIT = -1;
    private static final int NO_BYTE = -1;
    private static final int NO_BITS = -1;
    private static final int NO_ORDER = -2;

    /** Digits are reckoned in groups; a rest below this, with a limb behind it, fits a long. */
    private static final long MOST_GROUP = 1L << 31;

    private static final int ADD = 0;
    private static final int SUBTRACT = 1;
    private static final int MULTIPLY = 2;
    private static final int DIVIDE = 3;
    private static final int REST = 4;
    private static final int AND = 5;
    private static final int OR = 6;
    private static final int EXCLUSIVE_OR = 7;
    private static final int AND_NOT = 8;

    private final long[][] sizes;
    private final boolean[] below;

    private final byte[] digitValues;
    private int digitCount;

    /** Filled from its end, as the lowest digit is known first. */
    private final byte[] written;
    private int writtenFrom;

    /** Rows to reckon in: a limb more than a number has shows what is too great. */
    private final long[] first;
    private final long[] second;
    private final long[] wide;

    public ExactNumbers() {
        sizes = new long[SLOTS][LIMBS];
        below = new boolean[SLOTS];
        // Room for a whole word behind the last digit: a word is counted only after it was looked at.
        digitValues = new byte[MOST_DIGITS + WORD_BYTES];
        digitCount = 0;
        // The longest text is a - and as many digits of base 2 as there are bits.
        written = new byte[MOST_BITS + 1];
        writtenFrom = written.length;
        first = new long[LIMBS + 1];
        second = new long[LIMBS + 1];
        wide = new long[2 * LIMBS];
    }

    public int set(int s, long v, boolean sign) {
        if (!isSlot(s)) {
            return WRONG;
        }
        boolean isBelow = sign && v < 0;
        // The least long is its own negative, and read without a sign that is its size.
        long size = isBelow ? -v : v;
        Arrays.fill(first, 0);
        first[0] = size & LIMB_MASK;
        first[1] = size >>> LIMB_BITS;
        return store(s, first, isBelow);
    }

    public boolean digits(long word) {
        int count = digitCount;
        for (int at = WORD_BITS - 8; at >= 0; at -= 8) {
            int letter = (int) (word >>> at) & 0xFF;
            if (letter != 0) {
                int value = digitValue(letter);
                if (value == NO_DIGIT) {
                    return false;
                }
                // What stands behind digitCount is no digit yet, so this changes nothing.
                digitValues[count] = (byte) value;
                count++;
            }
        }
        if (count > MOST_DIGITS) {
            return false;
        }
        digitCount = count;
        return true;
    }

    public int read(int s, int base) {
        int count = digitCount;
        digitCount = 0;
        if (!isSlot(s) || !isBase(base) || count == 0 || !areDigitsOf(base, count)) {
            return WRONG;
        }
        Arrays.fill(first, 0);
        long power = 1;
        long group = 0;
        for (int i = 0; i < count; i++) {
            power *= base;
            group = group * base + digitValues[i];
            if (power * base > MOST_GROUP || i == count - 1) {
                Limbs.multiplyAndAdd(first, power, group);
                if (first[LIMBS] != 0) {
                    return GREAT;
                }
                power = 1;
                group = 0;
            }
        }
        return store(s, first, false);
    }

    public int work(int op, int s, int x, int y) {
        if (!isSlot(s) || !isSlot(x) || !isSlot(y)) {
            return WRONG;
        }
        switch (op) {
            case ADD:
                return sum(s, x, y, below[y]);
            case SUBTRACT:
                return sum(s, x, y, !below[y]);
            case MULTIPLY:
                Limbs.multiply(sizes[x], sizes[y], wide);
                return store(s, wide, below[x] != below[y]);
            case DIVIDE:
                return quotientOrRest(s, x, y, false);
            case REST:
                return quotientOrRest(s, x, y, true);
            case AND:
            case OR:
            case EXCLUSIVE_OR:
            case AND_NOT:
                return bitByBit(op, s, x, y);
            default:
                return WRONG;
        }
    }

    public int shift(int s, int x, int n, boolean left) {
        if (!isSlot(s) || !isSlot(x) || n < 0 || n > MOST_SHIFT) {
            return WRONG;
        }
        long[] size = sizes[x];
        if (left) {
            int length = Limbs.bitLength(size);
            if (length > 0 && length + n > MOST_BITS) {
                return GREAT;
            }
            Limbs.moveUp(size, n, first);
        } else {
            Limbs.moveDown(size, n, first);
            // Towards below: what a number below 0 loses makes its size greater.
            if (below[x] && Limbs.lowZeros(size) < n) {
                Limbs.increase(first);
            }
        }
        return store(s, first, below[x]);
    }

    public int turn(int s, int x, boolean not) {
        if (!isSlot(s) || !isSlot(x)) {
            return WRONG;
        }
        Limbs.copy(sizes[x], first);
        if (not) {
            // -1 - x: the size grows by 1 when x is not below 0, and shrinks by 1 when it is.
            if (below[x]) {
                Limbs.decrease(first);
            } else {
                Limbs.increase(first);
            }
        }
        return store(s, first, !below[x]);
    }

    public int compare(int x, int y) {
        if (!isSlot(x) || !isSlot(y)) {
            return NO_ORDER;
        }
        if (below[x] != below[y]) {
            return below[x] ? -1 : 1;
        }
        int order = Limbs.order(sizes[x], sizes[y]);
        return below[x] ? -order : order;
    }

    public int bits(int x) {
        return isSlot(x) ? Limbs.bitLength(sizes[x]) : NO_BITS;
    }

    public boolean fits(int x, int bits, boolean sign) {
        if (!isSlot(x) || !isWordLength(bits)) {
            return false;
        }
        int length = Limbs.bitLength(sizes[x]);
        if (!sign) {
            return !below[x] && length <= bits;
        }
        // With a sign, one number is as long as the word: the least, a power of 2 below 0.
        boolean isLeast = below[x] && length == bits && Limbs.lowZeros(sizes[x]) == bits - 1;
        return length < bits || isLeast;
    }

    public long cut(int x, int bits, boolean sign) {
        if (!isSlot(x) || !isWordLength(bits)) {
            return 0;
        }
        long word = sizes[x][0] | sizes[x][1] << LIMB_BITS;
        if (below[x]) {
            word = -word;
        }
        int over = WORD_BITS - bits;
        return sign ? word << over >> over : word << over >>> over;
    }

    public int write(int x, int base) {
        if (!isSlot(x) || !isBase(base)) {
            return -WRONG;
        }
        int length = groupLength(base);
        long power = powerOf(base, length);
        Limbs.copy(sizes[x], first);
        writtenFrom = written.length;
        int used = Limbs.used(first);
        for (int groups = 0; groups < MOST_BITS && used > 0; groups++) {
            long group = Limbs.divideBySmall(first, used, power);
            used = Limbs.used(first);
            // Only the highest group goes without the zeros in front of it.
            putGroup(group, base, used > 0 ? length : 0);
        }
        if (writtenFrom == written.length) {
            put('0');
        }
        if (below[x]) {
            put('-');
        }
        return written.length - writtenFrom;
    }

    public int byteOf(int i) {
        return i >= 0 && i < written.length - writtenFrom ? written[writtenFrom + i] : NO_BYTE;
    }

    private static boolean isSlot(int s) {
        return s >= 0 && s < SLOTS;
    }

    private static boolean isBase(int base) {
        return base >= LEAST_BASE && base <= MOST_BASE;
    }

    private static boolean isWordLength(int bits) {
        return bits >= 1 && bits <= WORD_BITS;
    }

    private static int digitValue(int letter) {
        if (letter >= '0' && letter <= '9') {
            return letter - '0';
        }
        if (letter >= 'a' && letter <= 'z') {
            return letter - 'a' + 10;
        }
        if (letter >= 'A' && letter <= 'Z') {
            return letter - 'A' + 10;
        }
        return NO_DIGIT;
    }

    private boolean areDigitsOf(int base, int count) {
        for (int i = 0; i < count; i++) {
            if (digitValues[i] >= base) {
                return false;
            }
        }
        return true;
    }

    /** Slot s becomes the number of this size and sign, unless it is too great. */
    private int store(int s, long[] size, boolean isBelow) {
        int used = Limbs.used(size);
        if (used > LIMBS) {
            return GREAT;
        }
        System.arraycopy(size, 0, sizes[s], 0, LIMBS);
        // There is no 0 below 0: compare, fits and write rely on it.
        below[s] = isBelow && used > 0;
        return FINE;
    }

    /** x + y, y taken with another sign where it is to be subtracted. */
    private int sum(int s, int x, int y, boolean yIsBelow) {
        if (below[x] == yIsBelow) {
            Limbs.add(sizes[x], sizes[y], first);
            return store(s, first, yIsBelow);
        }
        if (Limbs.order(sizes[x], sizes[y]) >= 0) {
            Limbs.subtract(sizes[x], sizes[y], first);
            return store(s, first, below[x]);
        }
        Limbs.subtract(sizes[y], sizes[x], first);
        return store(s, first, yIsBelow);
    }

    private int quotientOrRest(int s, int x, int y, boolean wantsRest) {
        int length = Limbs.used(sizes[y]);
        if (length == 0) {
            return ZERO;
        }
        // With the divisor's highest bit at the top of its limb, a guess from that limb is good;
        // the quotient stays the same when both are moved, and the rest is moved back.
        int lift = length * LIMB_BITS - Limbs.bitLength(sizes[y]);
        Limbs.moveUp(sizes[x], lift, first);
        Limbs.moveUp(sizes[y], lift, second);
        Arrays.fill(wide, 0);
        for (int at = LIMBS - length; at >= 0; at--) {
            wide[at] = Limbs.takeOut(first, second, length, at);
        }
        if (wantsRest) {
            Limbs.moveDown(first, lift, wide);
            return store(s, wide, below[x]);
        }
        return store(s, wide, below[x] != below[y]);
    }

    private int bitByBit(int op, int s, int x, int y) {
        signedCopy(x, first);
        signedCopy(y, second);
        for (int i = 0; i < first.length; i++) {
            first[i] = joined(op, first[i], second[i]);
        }
        // The limb above a number's own holds nothing but bits of the sign.
        boolean isBelow = first[LIMBS] != 0;
        if (isBelow) {
            Limbs.negate(first);
        }
        return store(s, first, isBelow);
    }

    /** x with the bits of its sign in front, as the operations on bits see it. */
    private void signedCopy(int x, long[] to) {
        Limbs.copy(sizes[x], to);
        if (below[x]) {
            Limbs.negate(to);
        }
    }

    private static long joined(int op, long a, long b) {
        switch (op) {
            case AND:
                return a & b;
            case OR:
                return a | b;
            case EXCLUSIVE_OR:
                return a ^ b;
            default:
                return a & ~b;
        }
    }

    /** How many digits of a base make a group that is reckoned at once. */
    private static int groupLength(int base) {
        int length = 1;
        long power = base;
        while (length < LIMB_BITS && power * base <= MOST_GROUP) {
            power *= base;
            length++;
        }
        return length;
    }

    private static long powerOf(int base, int exponent) {
        long power = 1;
        for (int i = 0; i < exponent; i++) {
            power *= base;
        }
        return power;
    }

    private void putGroup(long group, int base, int leastLength) {
        long left = group;
        for (int i = 0; i < LIMB_BITS && (left > 0 || i < leastLength); i++) {
            int digit = (int) (left % base);
            put(digit < 10 ? '0' + digit : 'a' + digit - 10);
            left /= base;
        }
    }

    private void put(int letter) {
        if (writtenFrom > 0) {
            writtenFrom--;
            written[writtenFrom] = (byte) letter;
        }
    }

    /** Reckoning with sizes: rows of limbs that may be of unlike lengths, 0 where a row has ended. */
    private static final class Limbs {
        static long limbAt(long[] row, int i) {
            return i >= 0 && i < row.length ? row[i] : 0;
        }

        /** How many limbs there are up to the highest that is not 0. */
        static int used(long[] row) {
            for (int i = row.length - 1; i >= 0; i--) {
                if (row[i] != 0) {
                    return i + 1;
                }
            }
            return 0;
        }

        static int bitLength(long[] row) {
            int used = used(row);
            return used == 0 ? 0
                    : used * LIMB_BITS - (Long.numberOfLeadingZeros(row[used - 1]) - LIMB_BITS);
        }

        /** How many bits of 0 stand below the lowest bit of 1; all of them in a row that is 0. */
        static int lowZeros(long[] row) {
            for (int i = 0; i < row.length; i++) {
                if (row[i] != 0) {
                    return i * LIMB_BITS + Long.numberOfTrailingZeros(row[i]);
                }
            }
            return row.length * LIMB_BITS;
        }

        static int order(long[] a, long[] b) {
            for (int i = LIMBS - 1; i >= 0; i--) {
                if (limbAt(a, i) != limbAt(b, i)) {
                    return limbAt(a, i) < limbAt(b, i) ? -1 : 1;
                }
            }
            return 0;
        }

        static void copy(long[] from, long[] to) {
            for (int i = 0; i < to.length; i++) {
                to[i] = limbAt(from, i);
            }
        }

        static void increase(long[] row) {
            for (int i = 0; i < row.length; i++) {
                row[i] = row[i] + 1 & LIMB_MASK;
                if (row[i] != 0) {
                    return;
                }
            }
        }

        static void decrease(long[] row) {
            for (int i = 0; i < row.length; i++) {
                row[i] = row[i] - 1 & LIMB_MASK;
                if (row[i] != LIMB_MASK) {
                    return;
                }
            }
        }

        static void negate(long[] row) {
            for (int i = 0; i < row.length; i++) {
                row[i] = ~row[i] & LIMB_MASK;
            }
            increase(row);
        }

        static void add(long[] a, long[] b, long[] to) {
            long carry = 0;
            for (int i = 0; i < to.length; i++) {
                long total = limbAt(a, i) + limbAt(b, i) + carry;
                to[i] = total & LIMB_MASK;
                carry = total >>> LIMB_BITS;
            }
        }

        /** a - b, where b is not more than a. */
        static void subtract(long[] a, long[] b, long[] to) {
            long borrow = 0;
            for (int i = 0; i < to.length; i++) {
                long difference = limbAt(a, i) - limbAt(b, i) - borrow;
                to[i] = difference & LIMB_MASK;
                borrow = difference < 0 ? 1 : 0;
            }
        }

        /** a * b, where to has as many limbs as both of them together. */
        static void multiply(long[] a, long[] b, long[] to) {
            Arrays.fill(to, 0);
            int aUsed = used(a);
            int bUsed = used(b);
            for (int i = 0; i < aUsed && i + bUsed < to.length; i++) {
                long carry = 0;
                for (int j = 0; j < bUsed; j++) {
                    // At the most 2 to the power 64, less 1: right when read without a sign.
                    long total = a[i] * b[j] + to[i + j] + carry;
                    to[i + j] = total & LIMB_MASK;
                    carry = total >>> LIMB_BITS;
                }
                to[i + bUsed] = carry;
            }
        }

        static void multiplyAndAdd(long[] row, long factor, long more) {
            long carry = more;
            for (int i = 0; i < row.length; i++) {
                long total = row[i] * factor + carry;
                row[i] = total & LIMB_MASK;
                carry = total >>> LIMB_BITS;
            }
        }

        /** The row becomes the quotient; the answer is the rest. The divisor is 1 .. MOST_GROUP. */
        static long divideBySmall(long[] row, int used, long divisor) {
            long rest = 0;
            if (divisor < 1 || divisor > MOST_GROUP || used > row.length) {
                return rest;
            }
            for (int i = used - 1; i >= 0; i--) {
                long dividend = rest << LIMB_BITS | row[i];
                row[i] = dividend / divisor;
                rest = dividend % divisor;
            }
            return rest;
        }

        static void moveUp(long[] from, int n, long[] to) {
            int limbs = n / LIMB_BITS;
            int part = n % LIMB_BITS;
            for (int i = 0; i < to.length; i++) {
                long high = limbAt(from, i - limbs) << part;
                long low = limbAt(from, i - limbs - 1) >>> LIMB_BITS - part;
                to[i] = (high | low) & LIMB_MASK;
            }
        }

        static void moveDown(long[] from, int n, long[] to) {
            int limbs = n / LIMB_BITS;
            int part = n % LIMB_BITS;
            for (int i = 0; i < to.length; i++) {
                long low = limbAt(from, i + limbs) >>> part;
                long high = limbAt(from, i + limbs + 1) << LIMB_BITS - part;
                to[i] = (high | low) & LIMB_MASK;
            }
        }

        /**
         * One limb of a quotient: how often the divisor, moved up by so many limbs, goes into the
         * dividend, which keeps the rest.
         */
        static long takeOut(long[] dividend, long[] divisor, int length, int at) {
            int top = at + length;
            if (length < 1 || length > divisor.length || at < 0 || top >= dividend.length) {
                return 0;
            }
            long quotient = guess(dividend[top], dividend[top - 1], divisor[length - 1]);
            boolean isShort = subtractProduct(dividend, divisor, length, at, quotient);
            // A guess from the highest limb of a divisor that fills it is too great by 2 at the most.
            for (int tries = 0; tries < 2 && isShort; tries++) {
                quotient--;
                isShort = !addBack(dividend, divisor, length, at);
            }
            return quotient;
        }

        /** The limbs high and low, divided by the divisor's highest limb: one limb at the most. */
        static long guess(long high, long low, long divisor) {
            if (high >= divisor) {
                return LIMB_MASK;
            }
            // high is less than the divisor, which so is not 0. The two limbs may fill the bit of
            // the sign: half of them is divided, and the last bit follows.
            long both = high << LIMB_BITS | low;
            long quotient = (both >>> 1) / divisor << 1;
            return both - quotient * divisor >= divisor ? quotient + 1 : quotient;
        }

        /** True if the product was more than the dividend's limbs from there on. */
        static boolean subtractProduct(
                long[] dividend, long[] divisor, int length, int at, long factor) {
            long carry = 0;
            for (int i = 0; i < length; i++) {
                long product = divisor[i] * factor + carry;
                long difference = dividend[at + i] - (product & LIMB_MASK);
                dividend[at + i] = difference & LIMB_MASK;
                carry = (product >>> LIMB_BITS) + (difference < 0 ? 1 : 0);
            }
            long difference = dividend[at + length] - carry;
            dividend[at + length] = difference & LIMB_MASK;
            return difference < 0;
        }

        /** True if the sum went over the highest limb: the dividend is below 0 no more. */
        static boolean addBack(long[] dividend, long[] divisor, int length, int at) {
            long carry = 0;
            for (int i = 0; i < length; i++) {
                long total = dividend[at + i] + divisor[i] + carry;
                dividend[at + i] = total & LIMB_MASK;
                carry = total >>> LIMB_BITS;
            }
            long total = dividend[at + length] + carry;
            dividend[at + length] = total & LIMB_MASK;
            return total > LIMB_MASK;
        }
    }
}
