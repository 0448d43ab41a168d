import java.math.BigInteger;
import java.util.List;

/** Promise 8: compare. */
public final class CompareTest {
    public static void main(String[] args) {
        Checks checks = new Checks();
        checks.sentence("-1, 0 or 1 as x is less than y, the same, or more");
        sweep(checks);
        everyLimb(checks);
        everySlot(checks);
        checks.sentence("-2 without such slots");
        for (Slots slots : Slots.BOTH_WAYS) {
            noSuchSlots(checks, slots);
        }
        checks.end();
    }

    private static void noSuchSlots(Checks checks, Slots slots) {
        ExactNumbers x = slots.filled();
        for (int bad : Slots.NONE) {
            checks.due("compare(" + bad + ", 0)", x.compare(bad, 0), -2);
            checks.due("compare(0, " + bad + ")", x.compare(0, bad), -2);
            checks.due("compare of the same wrong slot " + bad, x.compare(bad, bad), -2);
        }
        slots.areUntouched(checks, "compare", x);
    }

    private static void sweep(Checks checks) {
        List<BigInteger> edges = Numbers.edges();
        for (BigInteger a : edges) {
            for (BigInteger b : edges) {
                compared(checks, a, b);
            }
        }
        Sequence sequence = new Sequence(8);
        for (int i = 0; i < 2000; i++) {
            BigInteger a = sequence.number(512);
            compared(checks, a, sequence.number(512));
            compared(checks, a, a.flipBit(sequence.below(500)).mod(Numbers.LIMIT));
        }
    }

    /** Numbers that differ in one bit alone, and numbers whose lower bits tell the other way. */
    private static void everyLimb(Checks checks) {
        for (int bit = 0; bit < 512; bit++) {
            BigInteger less = Numbers.GREATEST.clearBit(bit);
            compared(checks, less, Numbers.GREATEST);
            compared(checks, less.negate(), Numbers.GREATEST.negate());
            compared(checks, Numbers.power(bit).subtract(BigInteger.ONE), Numbers.power(bit));
            compared(checks, Numbers.power(bit), Numbers.power(bit).negate());
        }
    }

    private static void compared(Checks checks, BigInteger a, BigInteger b) {
        ExactNumbers x = Numbers.with(a, b);
        checks.due("compare " + a + " with " + b, x.compare(0, 1), a.compareTo(b));
        checks.due("compare " + b + " with " + a, x.compare(1, 0), b.compareTo(a));
        checks.due("compare " + a + " with itself", x.compare(0, 0), 0);
    }

    private static void everySlot(Checks checks) {
        for (int slot = 0; slot < 64; slot++) {
            ExactNumbers x = Slots.EVEN_ABOVE.filled();
            for (int other = 0; other < 64; other++) {
                checks.due("compare(" + slot + ", " + other + ")", x.compare(slot, other),
                        Long.compare(Slots.EVEN_ABOVE.number(slot), Slots.EVEN_ABOVE.number(other)));
            }
        }
    }
}
