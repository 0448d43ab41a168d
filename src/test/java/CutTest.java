import java.math.BigInteger;

/** Promise 11: cut. */
public final class CutTest {
    public static void main(String[] args) {
        Checks checks = new Checks();
        for (BigInteger number : Numbers.edges()) {
            everyLength(checks, number);
        }
        Sequence sequence = new Sequence(9);
        for (int i = 0; i < 1000; i++) {
            everyLength(checks, sequence.number(i % 2 == 0 ? 512 : 70));
        }
        wrong(checks);
        checks.end();
    }

    private static void everyLength(Checks checks, BigInteger number) {
        ExactNumbers x = Numbers.with(number);
        for (int bits = 1; bits <= 64; bits++) {
            BigInteger low = number.mod(Numbers.power(bits));
            BigInteger signed = low.testBit(bits - 1) ? low.subtract(Numbers.power(bits)) : low;
            String call = "cut(" + number + ", " + bits;
            checks.due(call + ", false)", x.cut(0, bits, false), low.longValue());
            checks.due(call + ", true)", x.cut(0, bits, true), signed.longValue());
        }
        checks.due("number after cut", Numbers.take(x, 0), number);
    }

    private static void wrong(Checks checks) {
        ExactNumbers x = Numbers.with(BigInteger.ONE.negate());
        for (boolean sign : new boolean[] {true, false}) {
            for (int bits : new int[] {-1, 0, 65, 128, Integer.MIN_VALUE, Integer.MAX_VALUE}) {
                checks.due("cut to " + bits + " bits", x.cut(0, bits, sign), 0);
            }
            for (int bad : new int[] {-1, 64, Integer.MIN_VALUE, Integer.MAX_VALUE}) {
                checks.due("cut(" + bad + ")", x.cut(bad, 64, sign), 0);
            }
        }
    }
}
