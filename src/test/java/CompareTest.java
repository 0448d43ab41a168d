import java.math.BigInteger;
import java.util.List;

/** Promise 8: compare. */
public final class CompareTest {
    public static void main(String[] args) {
        Checks checks = new Checks();
        List<BigInteger> edges = Numbers.edges();
        for (BigInteger a : edges) {
            for (BigInteger b : edges) {
                compared(checks, a, b);
            }
        }
        Sequence sequence = new Sequence(8);
        for (int i = 0; i < 2000; i++) {
            BigInteger a = sequence.number(512);
            compared(checks, a, sequence.number(512));
            compared(checks, a, a.flipBit(sequence.below(500)).mod(Numbers.LIMIT));
        }
        ExactNumbers x = Numbers.with(BigInteger.ONE);
        for (int bad : new int[] {-1, 64, Integer.MIN_VALUE, Integer.MAX_VALUE}) {
            checks.due("compare(" + bad + ", 0)", x.compare(bad, 0), -2);
            checks.due("compare(0, " + bad + ")", x.compare(0, bad), -2);
            checks.due("compare of the same wrong slot " + bad, x.compare(bad, bad), -2);
        }
        checks.end();
    }

    private static void compared(Checks checks, BigInteger a, BigInteger b) {
        ExactNumbers x = Numbers.with(a, b);
        checks.due("compare " + a + " with " + b, x.compare(0, 1), a.compareTo(b));
        checks.due("compare " + b + " with " + a, x.compare(1, 0), b.compareTo(a));
        checks.due("compare " + a + " with itself", x.compare(0, 0), 0);
    }
}
