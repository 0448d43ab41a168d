import java.math.BigInteger;

/** Promise 6: shift. */
public final class ShiftTest {
    private static final int[] DISTANCES = {
        0, 1, 2, 31, 32, 33, 63, 64, 65, 255, 256, 257, 448, 479, 480, 481, 510, 511, 512, 513,
        543, 544, 545, 700, 992, 999, 1000
    };

    public static void main(String[] args) {
        Checks checks = new Checks();
        for (BigInteger number : Numbers.edges()) {
            for (int n : DISTANCES) {
                both(checks, number, n);
            }
        }
        Sequence sequence = new Sequence(6);
        for (int i = 0; i < 4000; i++) {
            both(checks, sequence.number(512), sequence.below(i % 2 == 0 ? 1001 : 200));
        }
        wrong(checks);
        checks.end();
    }

    private static void both(Checks checks, BigInteger number, int n) {
        for (int target : new int[] {0, 1}) {
            shifted(checks, number, n, true, target);
            shifted(checks, number, n, false, target);
        }
    }

    private static void shifted(Checks checks, BigInteger number, int n, boolean left, int target) {
        ExactNumbers x = Numbers.with(number, Numbers.MARK);
        BigInteger before = target == 0 ? number : Numbers.MARK;
        BigInteger want = left ? number.shiftLeft(n) : number.shiftRight(n);
        boolean isGreat = Numbers.isTooGreat(want);
        String call = "shift(" + target + ", 0, " + n + ", " + left + ") of " + number;
        checks.due(call, x.shift(target, 0, n, left), isGreat ? ExactNumbers.GREAT : ExactNumbers.FINE);
        checks.due(call, Numbers.take(x, target), isGreat ? before : want);
        if (target != 0) {
            checks.due(call + " keeps", Numbers.take(x, 0), number);
        }
    }

    private static void wrong(Checks checks) {
        for (int bad : new int[] {-1, 64, Integer.MIN_VALUE, Integer.MAX_VALUE}) {
            refused(checks, bad, 1, 1);
            refused(checks, 0, bad, 1);
            refused(checks, bad, bad, 1);
        }
        for (int n : new int[] {-1, -32, -1000, 1001, 1024, Integer.MIN_VALUE, Integer.MAX_VALUE}) {
            refused(checks, 0, 1, n);
            // Slot 9 is 0, which no shift makes too great.
            refused(checks, 0, 9, n);
        }
    }

    private static void refused(Checks checks, int s, int source, int n) {
        for (boolean left : new boolean[] {true, false}) {
            ExactNumbers x = Numbers.with(Numbers.MARK, BigInteger.TEN);
            String call = "shift(" + s + ", " + source + ", " + n + ", " + left + ")";
            checks.due(call, x.shift(s, source, n, left), ExactNumbers.WRONG);
            checks.due(call, Numbers.take(x, 0), Numbers.MARK);
        }
    }
}
