import java.math.BigInteger;

/** Promise 2: set. */
public final class SetTest {
    private static final long[] VALUES = {
        0, 1, -1, 7, -7, 0x7FFFFFFFL, 0x80000000L, 0xFFFFFFFFL, 0x100000000L, -0x80000000L,
        -0xFFFFFFFFL, -0x100000000L, Long.MAX_VALUE, Long.MIN_VALUE, Long.MIN_VALUE + 1
    };

    public static void main(String[] args) {
        Checks checks = new Checks();
        checks.sentence("Slot s becomes v, with its sign");
        for (long value : VALUES) {
            everySlot(checks, value, true, BigInteger.valueOf(value));
        }
        checks.sentence("or (for sign false) without");
        for (long value : VALUES) {
            everySlot(checks, value, false, new BigInteger(Long.toUnsignedString(value)));
        }
        checks.sentence("WRONG (no such slot)");
        for (int slot : Slots.NONE) {
            for (Slots slots : Slots.BOTH_WAYS) {
                refused(checks, slots, slot, true);
                refused(checks, slots, slot, false);
            }
        }
        checks.end();
    }

    private static void everySlot(Checks checks, long value, boolean sign, BigInteger want) {
        for (int slot = 0; slot < 64; slot++) {
            becomes(checks, slot, value, sign, want);
        }
    }

    private static void becomes(Checks checks, int slot, long value, boolean sign, BigInteger want) {
        // What stood there before must go, its highest limbs and its sign too.
        for (BigInteger before : new BigInteger[] {BigInteger.ZERO, Numbers.GREATEST.negate()}) {
            ExactNumbers x = Slots.EVEN_ABOVE.filled();
            Numbers.put(x, slot, before);
            String call = "set(" + slot + ", " + value + ", " + sign + ")";
            checks.due(call, x.set(slot, value, sign), ExactNumbers.FINE);
            checks.due(call, Numbers.take(x, slot), want);
            Slots.EVEN_ABOVE.othersAreUntouched(checks, call, x, slot);
        }
    }

    private static void refused(Checks checks, Slots slots, int slot, boolean sign) {
        ExactNumbers x = slots.filled();
        String call = "set(" + slot + ", -5, " + sign + ")";
        checks.due(call, x.set(slot, -5, sign), ExactNumbers.WRONG);
        slots.areUntouched(checks, call, x);
    }
}
