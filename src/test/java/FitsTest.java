import java.math.BigInteger;
import java.util.ArrayList;
import java.util.List;

/** Promise 10: fits. */
public final class FitsTest {
    public static void main(String[] args) {
        Checks checks = new Checks();
        checks.sentence("Whether x is a number of so many bits (1 .. 64), with sign");
        for (BigInteger number : numbers()) {
            withSign(checks, number);
        }
        checks.sentence("or without");
        for (BigInteger number : numbers()) {
            without(checks, number);
        }
        checks.sentence("False without such a slot");
        for (int bad : Slots.NONE) {
            for (int bits = 1; bits <= 64; bits++) {
                neither(checks, new ExactNumbers(), bad, bits);
            }
        }
        checks.sentence("or for other bits");
        ExactNumbers x = Numbers.with(BigInteger.ZERO, BigInteger.ONE, BigInteger.ONE.negate());
        for (int bits : Numbers.NO_LENGTHS) {
            neither(checks, x, 0, bits);
            neither(checks, x, 1, bits);
            neither(checks, x, 2, bits);
        }
        checks.end();
    }

    /** The numbers round every power of 2 up to past the longest word, with both signs. */
    private static List<BigInteger> numbers() {
        List<BigInteger> numbers = new ArrayList<>(Numbers.edges());
        for (int exponent = 0; exponent <= 66; exponent++) {
            for (int step = -2; step <= 2; step++) {
                BigInteger number = Numbers.power(exponent).add(BigInteger.valueOf(step));
                numbers.add(number);
                numbers.add(number.negate());
            }
        }
        return numbers;
    }

    private static void withSign(Checks checks, BigInteger number) {
        ExactNumbers x = Numbers.with(number);
        for (int bits = 1; bits <= 64; bits++) {
            BigInteger half = Numbers.power(bits - 1);
            boolean want = number.compareTo(half.negate()) >= 0 && number.compareTo(half) < 0;
            checks.due("fits(" + number + ", " + bits + ", true)", x.fits(0, bits, true), want);
        }
        checks.due("number after fits", Numbers.take(x, 0), number);
    }

    private static void without(Checks checks, BigInteger number) {
        ExactNumbers x = Numbers.with(number);
        for (int bits = 1; bits <= 64; bits++) {
            boolean want = number.signum() >= 0 && number.compareTo(Numbers.power(bits)) < 0;
            checks.due("fits(" + number + ", " + bits + ", false)", x.fits(0, bits, false), want);
        }
        checks.due("number after fits", Numbers.take(x, 0), number);
    }

    private static void neither(Checks checks, ExactNumbers x, int slot, int bits) {
        String call = "fits(" + slot + ", " + bits;
        checks.due(call + ", true)", x.fits(slot, bits, true), false);
        checks.due(call + ", false)", x.fits(slot, bits, false), false);
    }
}
