import java.math.BigInteger;

/** Promise 13: byteOf. */
public final class ByteOfTest {
    public static void main(String[] args) {
        Checks checks = new Checks();
        ExactNumbers x = Numbers.with(BigInteger.valueOf(-1234567), BigInteger.valueOf(42));
        outside(checks, x, 0);
        x.write(0, 10);
        same(checks, x, "-1234567");
        // A later and shorter text takes the place of the whole earlier one.
        x.write(1, 10);
        same(checks, x, "42");
        x.write(0, 36);
        same(checks, x, "-qglj");
        x.write(9, 2);
        same(checks, x, "0");
        // What was written does not follow the slot.
        x.write(1, 16);
        x.set(1, 77, true);
        x.work(2, 1, 1, 1);
        x.shift(1, 0, 5, true);
        x.turn(1, 0, true);
        x.digits('7');
        x.read(1, 10);
        same(checks, x, "2a");
        longest(checks);
        checks.end();
    }

    private static void same(Checks checks, ExactNumbers x, String want) {
        for (int i = 0; i < want.length(); i++) {
            checks.due("byte " + i + " of " + want, x.byteOf(i), want.charAt(i));
        }
        outside(checks, x, want.length());
    }

    private static void outside(Checks checks, ExactNumbers x, int length) {
        for (int i : new int[] {
            length, length + 1, 513, 514, 1000, -1, -2, Integer.MIN_VALUE, Integer.MAX_VALUE
        }) {
            checks.due("byteOf(" + i + ")", x.byteOf(i), -1);
        }
    }

    private static void longest(Checks checks) {
        ExactNumbers x = Numbers.with(Numbers.GREATEST.negate());
        checks.due("longest text", x.write(0, 2), 513);
        checks.due("its byte 0", x.byteOf(0), '-');
        checks.due("its byte 1", x.byteOf(1), '1');
        checks.due("its byte 512", x.byteOf(512), '1');
        outside(checks, x, 513);
    }
}
