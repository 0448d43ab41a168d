import java.math.BigInteger;

/** Promise 2: set. */
public final class SetTest {
    private static final long[] VALUES = {
        0, 1, -1, 7, -7, 0x7FFFFFFFL, 0x80000000L, 0xFFFFFFFFL, 0x100000000L, -0x80000000L,
        -0xFFFFFFFFL, -0x100000000L, Long.MAX_VALUE, Long.MIN_VALUE, Long.MIN_VALUE + 1
    };

    public static void main(String[] args) {
        Checks checks = new Checks();
        for (long value : VALUES) {
            for (int slot : new int[] {0, 1, 31, 63}) {
                becomes(checks, slot, value, true, BigInteger.valueOf(value));
                becomes(checks, slot, value, false, new BigInteger(Long.toUnsignedString(value)));
            }
        }
        for (int slot : new int[] {-1, 64, 65, Integer.MIN_VALUE, Integer.MAX_VALUE}) {
            ExactNumbers x = new ExactNumbers();
            checks.due("set(" + slot + ")", x.set(slot, 5, true), ExactNumbers.WRONG);
            checks.due("set(" + slot + ") without sign", x.set(slot, 5, false), ExactNumbers.WRONG);
            for (int other = 0; other < 64; other++) {
                checks.due("slot " + other + " after a wrong set", x.bits(other), 0);
            }
        }
        checks.end();
    }

    private static void becomes(Checks checks, int slot, long value, boolean sign, BigInteger want) {
        // What stood there before must go, its highest limbs and its sign too.
        for (BigInteger before : new BigInteger[] {BigInteger.ZERO, Numbers.GREATEST.negate()}) {
            ExactNumbers x = new ExactNumbers();
            Numbers.put(x, slot, before);
            String call = "set(" + slot + ", " + value + ", " + sign + ")";
            checks.due(call, x.set(slot, value, sign), ExactNumbers.FINE);
            checks.due(call, Numbers.take(x, slot), want);
            checks.due(call + " beside it", x.bits((slot + 1) % 64), 0);
            checks.due(call + " beside it", x.bits((slot + 63) % 64), 0);
        }
    }
}
