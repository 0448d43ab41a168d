import java.math.BigInteger;

/** Promise 12: write. */
public final class WriteTest {
    public static void main(String[] args) {
        Checks checks = new Checks();
        for (int base = 2; base <= 36; base++) {
            for (BigInteger number : Numbers.edges()) {
                written(checks, number, base);
            }
            for (int exponent = 1; exponent < 512; exponent++) {
                // Zeros inside a text, at the ends of groups of digits.
                BigInteger power = BigInteger.valueOf(base).pow(exponent);
                if (Numbers.isTooGreat(power)) {
                    break;
                }
                written(checks, power, base);
                written(checks, power.subtract(BigInteger.ONE), base);
            }
        }
        Sequence sequence = new Sequence(12);
        for (int i = 0; i < 2000; i++) {
            written(checks, sequence.number(512), 2 + sequence.below(35));
        }
        wrong(checks);
        checks.end();
    }

    private static void written(Checks checks, BigInteger number, int base) {
        ExactNumbers x = Numbers.with(number);
        String want = number.toString(base);
        String call = "write of " + number + " in base " + base;
        checks.due(call, x.write(0, base), want.length());
        StringBuilder text = new StringBuilder();
        // No object is used for more than 512 calls; put and write took some of them.
        int seen = Math.min(want.length(), 480);
        for (int i = 0; i < seen; i++) {
            text.append((char) x.byteOf(i));
        }
        checks.due(call, text.toString(), want.substring(0, seen));
        if (seen < want.length()) {
            ExactNumbers again = Numbers.with(number);
            again.write(0, base);
            for (int i = seen; i < want.length(); i++) {
                checks.due(call + ", byte " + i, again.byteOf(i), want.charAt(i));
            }
        } else {
            checks.due(call + ", behind it", x.byteOf(seen), -1);
            checks.due(call + " keeps the number", x.bits(0), number.abs().bitLength());
        }
    }

    private static void wrong(Checks checks) {
        for (int bad : new int[] {-1, 64, Integer.MIN_VALUE, Integer.MAX_VALUE}) {
            refused(checks, bad, 10);
        }
        for (int base : new int[] {-10, -2, -1, 0, 1, 37, 64, Integer.MIN_VALUE, Integer.MAX_VALUE}) {
            refused(checks, 0, base);
            refused(checks, 9, base);
        }
    }

    /** What was written latest stays. */
    private static void refused(Checks checks, int slot, int base) {
        ExactNumbers x = Numbers.with(BigInteger.valueOf(-305));
        checks.due("write(" + slot + ", " + base + ")", x.write(slot, base), -3);
        checks.due("byteOf(0) before anything was written", x.byteOf(0), -1);
        x.write(0, 10);
        checks.due("write(" + slot + ", " + base + ")", x.write(slot, base), -3);
        String text = "";
        for (int i = 0; i < 4; i++) {
            text += (char) x.byteOf(i);
        }
        checks.due("text after a wrong write", text, "-305");
        checks.due("end after a wrong write", x.byteOf(4), -1);
    }
}
