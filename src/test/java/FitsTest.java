import java.math.BigInteger;

/** Promise 10: fits. */
public final class FitsTest {
    public static void main(String[] args) {
        Checks checks = new Checks();
        for (int exponent = 0; exponent <= 66; exponent++) {
            for (int step = -2; step <= 2; step++) {
                BigInteger number = Numbers.power(exponent).add(BigInteger.valueOf(step));
                everyLength(checks, number);
                everyLength(checks, number.negate());
            }
        }
        for (BigInteger number : Numbers.edges()) {
            everyLength(checks, number);
        }
        wrong(checks);
        checks.end();
    }

    private static void everyLength(Checks checks, BigInteger number) {
        ExactNumbers x = Numbers.with(number);
        for (int bits = 1; bits <= 64; bits++) {
            BigInteger half = Numbers.power(bits - 1);
            boolean withSign = number.compareTo(half.negate()) >= 0 && number.compareTo(half) < 0;
            boolean without = number.signum() >= 0 && number.compareTo(Numbers.power(bits)) < 0;
            checks.due("fits(" + number + ", " + bits + ", true)", x.fits(0, bits, true), withSign);
            checks.due("fits(" + number + ", " + bits + ", false)", x.fits(0, bits, false), without);
        }
    }

    private static void wrong(Checks checks) {
        ExactNumbers x = Numbers.with(BigInteger.ZERO, BigInteger.ONE);
        for (boolean sign : new boolean[] {true, false}) {
            for (int bits : new int[] {-1, 0, 65, 128, Integer.MIN_VALUE, Integer.MAX_VALUE}) {
                checks.due("fits in " + bits + " bits", x.fits(0, bits, sign), false);
                checks.due("1 fits in " + bits + " bits", x.fits(1, bits, sign), false);
            }
            for (int bad : new int[] {-1, 64, Integer.MIN_VALUE, Integer.MAX_VALUE}) {
                checks.due("fits(" + bad + ")", x.fits(bad, 64, sign), false);
            }
        }
    }
}
