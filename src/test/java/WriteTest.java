import java.math.BigInteger;

/** Promise 12: write. */
public final class WriteTest {
    public static void main(String[] args) {
        Checks checks = new Checks();
        checks.sentence("x is written in a base, 2 .. 36 (digits 0 .. 9 a .. z");
        for (int base = 2; base <= 36; base++) {
            everyDigit(checks, base);
            for (BigInteger number : Numbers.edges()) {
                written(checks, number.abs(), base);
            }
            powers(checks, base);
        }
        everySlot(checks);
        checks.sentence("behind a - if it is below 0)");
        for (int base = 2; base <= 36; base++) {
            for (BigInteger number : Numbers.edges()) {
                written(checks, number.abs().negate(), base);
            }
        }
        Sequence sequence = new Sequence(12);
        for (int i = 0; i < 2000; i++) {
            written(checks, sequence.number(512), 2 + sequence.below(35));
        }
        checks.sentence("how many bytes");
        lengths(checks);
        checks.sentence("WRONG below 0 (-3) without such a slot");
        for (int bad : Slots.NONE) {
            refused(checks, bad, 2);
            refused(checks, bad, 10);
            refused(checks, bad, 36);
        }
        checks.sentence("or base");
        for (int base : Numbers.NO_BASES) {
            refused(checks, 0, base);
            refused(checks, 9, base);
            refused(checks, 63, base);
        }
        checks.end();
    }

    private static void everyDigit(Checks checks, int base) {
        for (int value = 0; value < base; value++) {
            written(checks, BigInteger.valueOf(value), base);
        }
        // Just past the last digit.
        written(checks, BigInteger.valueOf(base), base);
    }

    /** Zeros inside a text, at the ends of groups of digits. */
    private static void powers(Checks checks, int base) {
        BigInteger power = BigInteger.valueOf(base);
        for (int exponent = 1; exponent < 512 && !Numbers.isTooGreat(power); exponent++) {
            written(checks, power, base);
            written(checks, power.subtract(BigInteger.ONE), base);
            power = power.multiply(BigInteger.valueOf(base));
        }
    }

    private static void everySlot(Checks checks) {
        for (int slot = 0; slot < 64; slot++) {
            ExactNumbers x = Slots.EVEN_ABOVE.filled();
            String want = Long.toString(Slots.EVEN_ABOVE.number(slot));
            checks.due("write(" + slot + ", 10)", x.write(slot, 10), want.length());
            checks.due("write(" + slot + ", 10)", Numbers.writtenLatest(x), want);
            Slots.EVEN_ABOVE.areUntouched(checks, "write(" + slot + ", 10)", x);
        }
    }

    private static void written(Checks checks, BigInteger number, int base) {
        ExactNumbers x = Numbers.with(number);
        String want = number.toString(base);
        String call = "write of " + number + " in base " + base;
        checks.due(call, x.write(0, base), want.length());
        StringBuilder text = new StringBuilder();
        // No object is used for more than 512 calls; put and write took some of them.
        int seen = Math.min(want.length(), 480);
        for (int i = 0; i < seen; i++) {
            text.append((char) x.byteOf(i));
        }
        checks.due(call, text.toString(), want.substring(0, seen));
        if (seen < want.length()) {
            ExactNumbers again = Numbers.with(number);
            again.write(0, base);
            for (int i = seen; i < want.length(); i++) {
                checks.due(call + ", byte " + i, again.byteOf(i), want.charAt(i));
            }
        } else {
            checks.due(call + ", behind it", x.byteOf(seen), -1);
            checks.due(call + " keeps the number", x.bits(0), number.abs().bitLength());
        }
    }

    private static void lengths(Checks checks) {
        for (int base = 2; base <= 36; base++) {
            length(checks, BigInteger.ZERO, base, 1);
            length(checks, BigInteger.ONE, base, 1);
            length(checks, BigInteger.ONE.negate(), base, 2);
            length(checks, BigInteger.valueOf(base - 1), base, 1);
            length(checks, BigInteger.valueOf(base), base, 2);
        }
        length(checks, Numbers.GREATEST, 2, 512);
        length(checks, Numbers.GREATEST.negate(), 2, 513);
        length(checks, Numbers.GREATEST, 16, 128);
        length(checks, Numbers.GREATEST.negate(), 16, 129);
        length(checks, Numbers.GREATEST, 10, 155);
        length(checks, Numbers.GREATEST, 36, 100);
        length(checks, Numbers.GREATEST.negate(), 36, 101);
    }

    private static void length(Checks checks, BigInteger number, int base, int want) {
        ExactNumbers x = Numbers.with(number);
        checks.due("write of " + number + " in base " + base, x.write(0, base), want);
        checks.due("byte behind it", x.byteOf(want), -1);
        checks.due("last byte", x.byteOf(want - 1) != -1, true);
        checks.due("write again", x.write(0, base), want);
    }

    /** What was written latest stays, and so do the numbers. */
    private static void refused(Checks checks, int slot, int base) {
        for (Slots slots : Slots.BOTH_WAYS) {
            refused(checks, slots, slot, base);
        }
    }

    private static void refused(Checks checks, Slots slots, int slot, int base) {
        ExactNumbers x = slots.filled();
        String call = "write(" + slot + ", " + base + ")";
        checks.due(call, x.write(slot, base), -3);
        checks.due(call + " before anything was written", x.byteOf(0), -1);
        x.write(1, 10);
        checks.due(call, x.write(slot, base), -3);
        checks.due(call + ", then the text", Numbers.writtenLatest(x), Long.toString(slots.number(1)));
        slots.areUntouched(checks, call, x);
    }
}
