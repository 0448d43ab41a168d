import java.math.BigInteger;

/** Promise 9: bits. */
public final class BitsTest {
    public static void main(String[] args) {
        Checks checks = new Checks();
        checks.sentence("How many bits x has without its sign");
        for (int length = 1; length <= 512; length++) {
            BigInteger low = Numbers.power(length - 1);
            BigInteger high = Numbers.power(length).subtract(BigInteger.ONE);
            for (BigInteger number : new BigInteger[] {low, low.negate(), high, high.negate()}) {
                due(checks, number, length);
            }
        }
        checks.sentence("(0 for 0)");
        due(checks, BigInteger.ZERO, 0);
        ExactNumbers x = Numbers.with(Numbers.GREATEST);
        x.work(1, 0, 0, 0);
        checks.due("bits of a difference that is 0", x.bits(0), 0);
        checks.sentence("-1 without such a slot");
        for (Slots slots : Slots.BOTH_WAYS) {
            noSuchSlot(checks, slots);
        }
        checks.end();
    }

    private static void noSuchSlot(Checks checks, Slots slots) {
        ExactNumbers x = slots.filled();
        for (int bad : Slots.NONE) {
            checks.due("bits(" + bad + ")", x.bits(bad), -1);
        }
        slots.areUntouched(checks, "bits", x);
    }

    private static void due(Checks checks, BigInteger number, int length) {
        for (int slot : new int[] {0, 63}) {
            ExactNumbers x = new ExactNumbers();
            Numbers.put(x, slot, number);
            checks.due("bits of " + number, x.bits(slot), length);
            checks.due("bits of another slot", x.bits(63 - slot), 0);
        }
    }
}
