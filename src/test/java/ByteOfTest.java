import java.math.BigInteger;

/** Promise 13: byteOf. */
public final class ByteOfTest {
    public static void main(String[] args) {
        Checks checks = new Checks();
        checks.sentence("Byte i of what was written");
        everyByte(checks);
        checks.sentence("latest");
        latest(checks);
        doesNotFollowTheSlot(checks);
        checks.sentence("-1 when there is none: nothing was written");
        outside(checks, new ExactNumbers(), 0);
        ExactNumbers x = Slots.EVEN_ABOVE.filled();
        x.write(64, 10);
        x.write(0, 37);
        outside(checks, x, 0);
        checks.sentence("-1 when there is none: i is below 0, or behind the text");
        ends(checks);
        checks.end();
    }

    private static void same(Checks checks, ExactNumbers x, String want) {
        for (int i = 0; i < want.length(); i++) {
            checks.due("byte " + i + " of " + want, x.byteOf(i), want.charAt(i));
        }
        outside(checks, x, want.length());
    }

    private static void outside(Checks checks, ExactNumbers x, int length) {
        for (int i : new int[] {
            length, length + 1, 513, 514, 1000, -1, -2, -513, Integer.MIN_VALUE, Integer.MAX_VALUE
        }) {
            checks.due("byteOf(" + i + ")", x.byteOf(i), -1);
        }
    }

    private static void everyByte(Checks checks) {
        ExactNumbers x = Numbers.with(BigInteger.valueOf(-1234567));
        x.write(0, 10);
        // In any order, and as often as wanted.
        for (int i = 7; i >= 0; i--) {
            checks.due("byte " + i, x.byteOf(i), "-1234567".charAt(i));
        }
        same(checks, x, "-1234567");
    }

    /** A later text takes the place of the whole earlier one, be it longer or shorter. */
    private static void latest(Checks checks) {
        ExactNumbers x = Numbers.with(BigInteger.valueOf(-1234567), BigInteger.valueOf(42));
        x.write(0, 10);
        x.write(1, 10);
        same(checks, x, "42");
        x.write(0, 36);
        same(checks, x, "-qglj");
        x.write(9, 2);
        same(checks, x, "0");
        x.write(0, 10);
        same(checks, x, "-1234567");
        x.write(0, 1);
        x.write(-1, 10);
        same(checks, x, "-1234567");
    }

    private static void doesNotFollowTheSlot(Checks checks) {
        ExactNumbers x = Numbers.with(BigInteger.valueOf(-1234567), BigInteger.valueOf(42));
        x.write(1, 16);
        x.set(1, 77, true);
        x.work(2, 1, 1, 1);
        x.work(3, 1, 0, 1);
        x.shift(1, 0, 5, true);
        x.turn(1, 0, true);
        x.digits('7');
        x.read(1, 10);
        x.compare(0, 1);
        x.bits(0);
        x.fits(0, 5, true);
        x.cut(0, 5, true);
        same(checks, x, "2a");
    }

    private static void ends(Checks checks) {
        for (int length = 1; length <= 512; length++) {
            ExactNumbers x = Numbers.with(Numbers.power(length - 1), Numbers.power(length - 1).negate());
            x.write(0, 2);
            lastByte(checks, x, length);
            x.write(1, 2);
            lastByte(checks, x, length + 1);
        }
        ExactNumbers x = Numbers.with(Numbers.GREATEST.negate());
        checks.due("longest text", x.write(0, 2), 513);
        checks.due("its byte 0", x.byteOf(0), '-');
        checks.due("its byte 1", x.byteOf(1), '1');
        checks.due("its byte 512", x.byteOf(512), '1');
        outside(checks, x, 513);
    }

    private static void lastByte(Checks checks, ExactNumbers x, int length) {
        checks.due("last of " + length + " bytes", x.byteOf(length - 1) != -1, true);
        outside(checks, x, length);
    }
}
