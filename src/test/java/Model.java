import java.math.BigInteger;

/** The document's promises once more, plainly, over the Java library's numbers. */
final class Model {
    private final BigInteger[] slots = new BigInteger[64];
    private String digits = "";
    private String written = "";

    Model() {
        java.util.Arrays.fill(slots, BigInteger.ZERO);
    }

    private static boolean isSlot(int s) {
        return s >= 0 && s <= 63;
    }

    private int store(int s, BigInteger number) {
        if (Numbers.isTooGreat(number)) {
            return 1;
        }
        slots[s] = number;
        return 0;
    }

    int set(int s, long v, boolean sign) {
        if (!isSlot(s)) {
            return 3;
        }
        return store(s, sign ? BigInteger.valueOf(v) : new BigInteger(Long.toUnsignedString(v)));
    }

    boolean digits(long word) {
        StringBuilder more = new StringBuilder();
        for (int i = 7; i >= 0; i--) {
            int letter = (int) (word >>> 8 * i) & 255;
            if (letter != 0) {
                if (letter > 127 || Character.digit((char) letter, 36) < 0) {
                    return false;
                }
                more.append((char) letter);
            }
        }
        if (digits.length() + more.length() > 1000) {
            return false;
        }
        digits += more;
        return true;
    }

    int read(int s, int base) {
        String text = digits;
        digits = "";
        if (!isSlot(s) || base < 2 || base > 36 || text.isEmpty()) {
            return 3;
        }
        for (char letter : text.toCharArray()) {
            if (Character.digit(letter, base) < 0) {
                return 3;
            }
        }
        return store(s, new BigInteger(text, base));
    }

    int work(int op, int s, int x, int y) {
        if (!isSlot(s) || !isSlot(x) || !isSlot(y)) {
            return 3;
        }
        BigInteger a = slots[x];
        BigInteger b = slots[y];
        if ((op == 3 || op == 4) && b.signum() == 0) {
            return 2;
        }
        switch (op) {
            case 0: return store(s, a.add(b));
            case 1: return store(s, a.subtract(b));
            case 2: return store(s, a.multiply(b));
            case 3: return store(s, a.divide(b));
            case 4: return store(s, a.remainder(b));
            case 5: return store(s, a.and(b));
            case 6: return store(s, a.or(b));
            case 7: return store(s, a.xor(b));
            case 8: return store(s, a.andNot(b));
            default: return 3;
        }
    }

    int shift(int s, int x, int n, boolean left) {
        if (!isSlot(s) || !isSlot(x) || n < 0 || n > 1000) {
            return 3;
        }
        return store(s, left ? slots[x].shiftLeft(n) : slots[x].shiftRight(n));
    }

    int turn(int s, int x, boolean not) {
        if (!isSlot(s) || !isSlot(x)) {
            return 3;
        }
        return store(s, not ? slots[x].not() : slots[x].negate());
    }

    int compare(int x, int y) {
        return isSlot(x) && isSlot(y) ? slots[x].compareTo(slots[y]) : -2;
    }

    int bits(int x) {
        return isSlot(x) ? slots[x].abs().bitLength() : -1;
    }

    boolean fits(int x, int bits, boolean sign) {
        if (!isSlot(x) || bits < 1 || bits > 64) {
            return false;
        }
        // bitLength() leaves the sign's own bit out.
        return sign ? slots[x].bitLength() < bits : slots[x].signum() >= 0 && slots[x].bitLength() <= bits;
    }

    long cut(int x, int bits, boolean sign) {
        if (!isSlot(x) || bits < 1 || bits > 64) {
            return 0;
        }
        BigInteger low = slots[x].mod(Numbers.power(bits));
        return (sign && low.testBit(bits - 1) ? low.subtract(Numbers.power(bits)) : low).longValue();
    }

    int write(int x, int base) {
        if (!isSlot(x) || base < 2 || base > 36) {
            return -3;
        }
        written = slots[x].toString(base);
        return written.length();
    }

    int byteOf(int i) {
        return i >= 0 && i < written.length() ? written.charAt(i) : -1;
    }
}
