import java.math.BigInteger;

/** Promise 7: turn. */
public final class TurnTest {
    private static final BigInteger MINUS_ONE = BigInteger.ONE.negate();

    public static void main(String[] args) {
        Checks checks = new Checks();
        checks.sentence("Slot s becomes -x");
        sweep(checks, false);
        everySlot(checks, false);
        checks.sentence("Slot s becomes -x, also where x is 0");
        minusZero(checks);
        checks.sentence("or (not true) NOT x");
        sweep(checks, true);
        everySlot(checks, true);
        turned(checks, BigInteger.ZERO, true);
        turned(checks, MINUS_ONE, true);
        checks.sentence("GREAT (NOT of 2 to the power 512, less 1)");
        roundTheLimit(checks);
        checks.sentence("or WRONG");
        for (int bad : Slots.NONE) {
            refused(checks, bad, 0);
            refused(checks, 0, bad);
            refused(checks, bad, bad);
            // Slot 8 is the greatest: a slot that is none comes before what is too great.
            refused(checks, bad, 8);
        }
        checks.end();
    }

    private static void sweep(Checks checks, boolean not) {
        for (BigInteger number : Numbers.edges()) {
            turned(checks, number, not);
        }
        Sequence sequence = new Sequence(7);
        for (int i = 0; i < 500; i++) {
            turned(checks, sequence.number(512), not);
        }
    }

    private static void turned(Checks checks, BigInteger number, boolean not) {
        turned(checks, number, not, 0);
        turned(checks, number, not, 1);
    }

    private static void turned(Checks checks, BigInteger number, boolean not, int target) {
        ExactNumbers x = Numbers.with(number, Numbers.MARK);
        BigInteger before = target == 0 ? number : Numbers.MARK;
        BigInteger want = not ? MINUS_ONE.subtract(number) : number.negate();
        boolean isGreat = not && number.equals(Numbers.GREATEST);
        String call = "turn(" + target + ", 0, " + not + ") of " + number;
        checks.due(call, x.turn(target, 0, not), isGreat ? ExactNumbers.GREAT : ExactNumbers.FINE);
        checks.due(call, Numbers.take(x, target), isGreat ? before : want);
        if (target != 0) {
            checks.due(call + " keeps", Numbers.take(x, 0), number);
        }
    }

    private static void everySlot(Checks checks, boolean not) {
        for (int slot = 0; slot < 64; slot++) {
            ExactNumbers x = Slots.EVEN_ABOVE.filled();
            int source = (slot + 23) % 64;
            long number = Slots.EVEN_ABOVE.number(source);
            String call = "turn(" + slot + ", " + source + ", " + not + ")";
            checks.due(call, x.turn(slot, source, not), ExactNumbers.FINE);
            checks.due(call, x.cut(slot, 64, true), not ? ~number : -number);
            Slots.EVEN_ABOVE.othersAreUntouched(checks, call, x, slot);
        }
    }

    /** There is one 0, and it is not below 0. */
    private static void minusZero(Checks checks) {
        ExactNumbers x = new ExactNumbers();
        checks.due("turn of 0", x.turn(0, 0, false), ExactNumbers.FINE);
        checks.due("-0 beside 0", x.compare(0, 1), 0);
        checks.due("0 beside -0", x.compare(1, 0), 0);
        checks.due("-0 fits without a sign", x.fits(0, 1, false), true);
        checks.due("-0 written", x.write(0, 10), 1);
        checks.due("-0 written", x.byteOf(0), '0');
        checks.due("bits of -0", x.bits(0), 0);
        checks.due("NOT of -0", x.turn(2, 0, true), ExactNumbers.FINE);
        checks.due("NOT of -0", x.cut(2, 64, true), -1);
        checks.due("shift of -0", x.shift(3, 0, 1, false), ExactNumbers.FINE);
        checks.due("shift of -0", x.cut(3, 64, true), 0);
    }

    private static void roundTheLimit(Checks checks) {
        for (int step = 0; step <= 2; step++) {
            BigInteger number = Numbers.GREATEST.subtract(BigInteger.valueOf(step));
            turned(checks, number, true);
            turned(checks, number, false);
            turned(checks, number.negate(), true);
            turned(checks, number.negate(), false);
        }
        ExactNumbers x = Numbers.with(Numbers.GREATEST, Numbers.GREATEST.negate());
        checks.due("NOT of the greatest", x.turn(2, 0, true), ExactNumbers.GREAT);
        checks.due("slot 2 stays", x.bits(2), 0);
        checks.due("NOT of the least", x.turn(3, 1, true), ExactNumbers.FINE);
        checks.due("it is less by 1", x.compare(3, 0), -1);
        checks.due("NOT of that", x.turn(4, 3, true), ExactNumbers.FINE);
        checks.due("it is the least", x.compare(4, 1), 0);
    }

    private static void refused(Checks checks, int s, int source) {
        for (Slots slots : Slots.BOTH_WAYS) {
            refused(checks, slots, s, source, true);
            refused(checks, slots, s, source, false);
        }
    }

    private static void refused(Checks checks, Slots slots, int s, int source, boolean not) {
        ExactNumbers x = slots.filledWithEnds();
        String call = "turn(" + s + ", " + source + ", " + not + ")";
        checks.due(call, x.turn(s, source, not), ExactNumbers.WRONG);
        slots.areUntouchedWithEnds(checks, call, x);
    }
}
