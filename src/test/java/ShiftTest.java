import java.math.BigInteger;

/** Promise 6: shift. */
public final class ShiftTest {
    private static final int[] DISTANCES = {
        0, 1, 2, 31, 32, 33, 63, 64, 65, 255, 256, 257, 448, 479, 480, 481, 510, 511, 512, 513,
        543, 544, 545, 700, 992, 999, 1000
    };
    private static final int[] NO_DISTANCES = {
        -1, -2, -32, -1000, 1001, 1002, 1024, 65536, Integer.MIN_VALUE, Integer.MAX_VALUE
    };

    public static void main(String[] args) {
        Checks checks = new Checks();
        checks.sentence("Slot s becomes x shifted by n bits, to the left");
        sweep(checks, true);
        everySlot(checks, true);
        checks.sentence("or to the right");
        sweep(checks, false);
        everySlot(checks, false);
        checks.sentence("n is 0");
        for (BigInteger number : Numbers.edges()) {
            both(checks, number, 0);
        }
        checks.sentence("n is 1000");
        for (BigInteger number : Numbers.edges()) {
            both(checks, number, 1000);
        }
        checks.sentence("GREAT");
        roundTheLimit(checks);
        checks.sentence("or WRONG (no such slots");
        for (int bad : Slots.NONE) {
            refused(checks, bad, 1, 1);
            refused(checks, 0, bad, 1);
            refused(checks, bad, bad, 1);
            // Slot 8 is the greatest: a slot that is none comes before what is too great.
            refused(checks, bad, 8, 1);
        }
        checks.sentence("or n is not 0 .. 1000)");
        for (int n : NO_DISTANCES) {
            refused(checks, 0, 1, n);
            refused(checks, 0, 8, n);
            // Slot 9 is 0, which no shift makes too great.
            refused(checks, 0, 9, n);
            refused(checks, 1, 1, n);
        }
        checks.end();
    }

    private static void sweep(Checks checks, boolean left) {
        for (BigInteger number : Numbers.edges()) {
            for (int n : DISTANCES) {
                shifted(checks, number, n, left);
            }
        }
        Sequence sequence = new Sequence(6);
        for (int i = 0; i < 4000; i++) {
            shifted(checks, sequence.number(512), sequence.below(i % 2 == 0 ? 1001 : 200), left);
        }
    }

    private static void both(Checks checks, BigInteger number, int n) {
        shifted(checks, number, n, true);
        shifted(checks, number, n, false);
    }

    private static void shifted(Checks checks, BigInteger number, int n, boolean left) {
        shifted(checks, number, n, left, 0);
        shifted(checks, number, n, left, 1);
    }

    private static void shifted(Checks checks, BigInteger number, int n, boolean left, int target) {
        ExactNumbers x = Numbers.with(number, Numbers.MARK);
        BigInteger before = target == 0 ? number : Numbers.MARK;
        BigInteger want = left ? number.shiftLeft(n) : number.shiftRight(n);
        boolean isGreat = Numbers.isTooGreat(want);
        String call = "shift(" + target + ", 0, " + n + ", " + left + ") of " + number;
        checks.due(call, x.shift(target, 0, n, left), isGreat ? ExactNumbers.GREAT : ExactNumbers.FINE);
        checks.due(call, Numbers.take(x, target), isGreat ? before : want);
        if (target != 0) {
            checks.due(call + " keeps", Numbers.take(x, 0), number);
        }
    }

    private static void everySlot(Checks checks, boolean left) {
        for (int slot = 0; slot < 64; slot++) {
            ExactNumbers x = Slots.EVEN_ABOVE.filled();
            int source = (slot + 23) % 64;
            BigInteger number = BigInteger.valueOf(Slots.EVEN_ABOVE.number(source));
            String call = "shift(" + slot + ", " + source + ", 3, " + left + ")";
            checks.due(call, x.shift(slot, source, 3, left), ExactNumbers.FINE);
            checks.due(call, Numbers.take(x, slot), left ? number.shiftLeft(3) : number.shiftRight(3));
            Slots.EVEN_ABOVE.othersAreUntouched(checks, call, x, slot);
        }
    }

    /** The longest shift that each length goes, and one bit more; 0 goes any. */
    private static void roundTheLimit(Checks checks) {
        for (int length = 1; length <= 512; length++) {
            BigInteger low = Numbers.power(length - 1);
            BigInteger high = Numbers.power(length).subtract(BigInteger.ONE);
            for (BigInteger number : new BigInteger[] {low, low.negate(), high, high.negate()}) {
                shifted(checks, number, 512 - length, true);
                shifted(checks, number, 513 - length, true);
            }
        }
        for (int n = 0; n <= 1000; n++) {
            ExactNumbers x = new ExactNumbers();
            x.set(0, 5, true);
            checks.due("0 shifted by " + n, x.shift(0, 1, n, true), ExactNumbers.FINE);
            checks.due("0 shifted by " + n, x.bits(0), 0);
            x.set(2, -1, true);
            checks.due("-1 shifted by " + n, x.shift(3, 2, n, true),
                    n < 512 ? ExactNumbers.FINE : ExactNumbers.GREAT);
            checks.due("-1 shifted by " + n, x.bits(3), n < 512 ? n + 1 : 0);
        }
    }

    private static void refused(Checks checks, int s, int source, int n) {
        for (Slots slots : Slots.BOTH_WAYS) {
            refused(checks, slots, s, source, n, true);
            refused(checks, slots, s, source, n, false);
        }
    }

    private static void refused(Checks checks, Slots slots, int s, int source, int n, boolean left) {
        ExactNumbers x = slots.filledWithEnds();
        String call = "shift(" + s + ", " + source + ", " + n + ", " + left + ")";
        checks.due(call, x.shift(s, source, n, left), ExactNumbers.WRONG);
        slots.areUntouchedWithEnds(checks, call, x);
    }
}
