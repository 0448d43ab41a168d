import java.math.BigInteger;

/** Promise 11: cut. */
public final class CutTest {
    public static void main(String[] args) {
        Checks checks = new Checks();
        checks.sentence("The lowest so many bits (1 .. 64) of x, as said of & above");
        sweep(checks, false);
        lowestBitsByAnd(checks);
        powersBelowZero(checks);
        checks.sentence("then as a number with sign or without");
        sweep(checks, true);
        wholeWords(checks);
        checks.sentence("0 without such a slot");
        for (int bad : Slots.NONE) {
            for (int bits = 1; bits <= 64; bits++) {
                nothing(checks, bad, bits);
            }
        }
        checks.sentence("or for other bits");
        for (int bits : Numbers.NO_LENGTHS) {
            nothing(checks, 0, bits);
            nothing(checks, 1, bits);
            nothing(checks, 63, bits);
        }
        checks.end();
    }

    private static void sweep(Checks checks, boolean sign) {
        for (BigInteger number : Numbers.edges()) {
            everyLength(checks, number, sign);
        }
        for (int exponent = 0; exponent <= 66; exponent++) {
            for (int step = -1; step <= 1; step++) {
                BigInteger number = Numbers.power(exponent).add(BigInteger.valueOf(step));
                everyLength(checks, number, sign);
                everyLength(checks, number.negate(), sign);
            }
        }
        Sequence sequence = new Sequence(9);
        for (int i = 0; i < 1000; i++) {
            everyLength(checks, sequence.number(i % 2 == 0 ? 512 : 70), sign);
        }
    }

    private static void everyLength(Checks checks, BigInteger number, boolean sign) {
        ExactNumbers x = Numbers.with(number);
        for (int bits = 1; bits <= 64; bits++) {
            BigInteger want = number.mod(Numbers.power(bits));
            if (sign && want.testBit(bits - 1)) {
                want = want.subtract(Numbers.power(bits));
            }
            checks.due("cut(" + number + ", " + bits + ", " + sign + ")",
                    x.cut(0, bits, sign), want.longValue());
        }
        checks.due("number after cut", Numbers.take(x, 0), number);
    }

    /** What work's & leaves of the lowest bits is what cut answers. */
    private static void lowestBitsByAnd(Checks checks) {
        for (BigInteger number : Numbers.edges()) {
            for (int bits = 1; bits <= 64; bits++) {
                ExactNumbers x = Numbers.with(number);
                x.set(1, -1L >>> 64 - bits, false);
                x.work(5, 2, 0, 1);
                x.set(3, x.cut(0, bits, false), false);
                checks.due("cut of " + number + " beside &", x.compare(2, 3), 0);
            }
        }
    }

    /** - (2 to a power) has nothing but zeros below that power's bit. */
    private static void powersBelowZero(Checks checks) {
        for (int exponent = 0; exponent < 512; exponent++) {
            ExactNumbers x = Numbers.with(Numbers.power(exponent).negate());
            checks.due("cut of -2 to the power " + exponent, x.cut(0, 64, false),
                    exponent < 64 ? -1L << exponent : 0);
        }
    }

    /** All 64 bits are the same long with sign and without. */
    private static void wholeWords(Checks checks) {
        for (long word : new long[] {0, 1, -1, Long.MIN_VALUE, Long.MAX_VALUE, 0x123456789ABCDEFL}) {
            for (boolean sign : new boolean[] {true, false}) {
                ExactNumbers x = new ExactNumbers();
                x.set(0, word, sign);
                checks.due("cut of " + word + " with sign", x.cut(0, 64, true), word);
                checks.due("cut of " + word + " without", x.cut(0, 64, false), word);
            }
        }
    }

    /** No slot is 0: a 0 that is answered is no number that was cut. */
    private static void nothing(Checks checks, int slot, int bits) {
        ExactNumbers x = new ExactNumbers();
        for (int each = 0; each < 64; each++) {
            x.set(each, -1, true);
        }
        checks.due("cut(" + slot + ", " + bits + ", true)", x.cut(slot, bits, true), 0);
        checks.due("cut(" + slot + ", " + bits + ", false)", x.cut(slot, bits, false), 0);
    }
}
