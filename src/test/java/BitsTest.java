import java.math.BigInteger;

/** Promise 9: bits. */
public final class BitsTest {
    public static void main(String[] args) {
        Checks checks = new Checks();
        length(checks, BigInteger.ZERO);
        for (int exponent = 0; exponent <= 512; exponent++) {
            BigInteger below = Numbers.power(exponent).subtract(BigInteger.ONE);
            length(checks, below);
            length(checks, below.negate());
            if (exponent < 512) {
                length(checks, Numbers.power(exponent));
                length(checks, Numbers.power(exponent).negate());
            }
        }
        ExactNumbers x = new ExactNumbers();
        for (int bad : new int[] {-1, 64, Integer.MIN_VALUE, Integer.MAX_VALUE}) {
            checks.due("bits(" + bad + ")", x.bits(bad), -1);
        }
        checks.end();
    }

    private static void length(Checks checks, BigInteger number) {
        ExactNumbers x = new ExactNumbers();
        Numbers.put(x, 63, number);
        checks.due("bits of " + number, x.bits(63), number.abs().bitLength());
    }
}
