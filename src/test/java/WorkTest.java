import java.math.BigInteger;
import java.util.List;

/** Promise 5: work, against the Java library's numbers. */
public final class WorkTest {
    public static void main(String[] args) {
        Checks checks = new Checks();
        List<BigInteger> edges = Numbers.edges();
        for (BigInteger a : edges) {
            for (BigInteger b : edges) {
                allOps(checks, a, b);
            }
            slotsThatAreTheSame(checks, a);
        }
        Sequence sequence = new Sequence(5);
        for (int i = 0; i < 4000; i++) {
            BigInteger b = sequence.number(512);
            allOps(checks, sequence.number(512), b);
            // Close to a multiple of b: where the guesses of a division are hardest.
            BigInteger near = b.multiply(sequence.number(512 - b.bitLength())).add(sequence.number(3));
            if (!Numbers.isTooGreat(near)) {
                allOps(checks, near, b);
            }
        }
        guessesTooGreatByTwo(checks);
        wrong(checks);
        checks.end();
    }

    /** Divisions whose quotient, guessed from the highest limbs alone, must be mended twice. */
    private static void guessesTooGreatByTwo(Checks checks) {
        BigInteger a = Numbers.power(95).subtract(Numbers.power(63));
        BigInteger b = Numbers.power(63).add(Numbers.power(32)).subtract(BigInteger.ONE);
        for (int up = 0; up <= 416; up += 13) {
            for (int apart = 0; up + apart <= 416; apart += 32) {
                BigInteger dividend = a.shiftLeft(up + apart);
                BigInteger divisor = b.shiftLeft(up);
                allOps(checks, dividend, divisor);
                allOps(checks, dividend.negate(), divisor.add(BigInteger.ONE));
                allOps(checks, dividend.add(BigInteger.ONE), divisor.negate());
            }
        }
    }

    private static BigInteger result(int op, BigInteger a, BigInteger b) {
        switch (op) {
            case 0: return a.add(b);
            case 1: return a.subtract(b);
            case 2: return a.multiply(b);
            case 3: return a.divide(b);
            case 4: return a.remainder(b);
            case 5: return a.and(b);
            case 6: return a.or(b);
            case 7: return a.xor(b);
            default: return a.andNot(b);
        }
    }

    private static void allOps(Checks checks, BigInteger a, BigInteger b) {
        // The expected number is put into a slot and compared there: fewer calls than its digits.
        ExactNumbers x = Numbers.with(a, b);
        for (int op = 0; op <= 8; op++) {
            x.set(2, 77, true);
            answers(checks, x, op, 2, 0, 1, a, b, BigInteger.valueOf(77));
        }
        checks.due("left of " + a + " and " + b, Numbers.take(x, 0), a);
        checks.due("right of " + a + " and " + b, Numbers.take(x, 1), b);
    }

    private static void answers(Checks checks, ExactNumbers x, int op, int s, int left, int right,
            BigInteger a, BigInteger b, BigInteger before) {
        String call = "work(" + op + ", " + s + ", " + left + ", " + right + ") of " + a + " and " + b;
        int answer = x.work(op, s, left, right);
        BigInteger want = before;
        if ((op == 3 || op == 4) && b.signum() == 0) {
            checks.due(call, answer, ExactNumbers.ZERO);
        } else if (Numbers.isTooGreat(result(op, a, b))) {
            checks.due(call, answer, ExactNumbers.GREAT);
        } else {
            checks.due(call, answer, ExactNumbers.FINE);
            want = result(op, a, b);
        }
        Numbers.put(x, 63, want);
        checks.due(call + " is " + want, x.compare(s, 63), 0);
    }

    private static void slotsThatAreTheSame(Checks checks, BigInteger a) {
        BigInteger b = new BigInteger("-123456789012345678901234567890");
        for (int op = 0; op <= 8; op++) {
            answers(checks, Numbers.with(a, b), op, 0, 0, 1, a, b, a);
            answers(checks, Numbers.with(a, b), op, 1, 0, 1, a, b, b);
            answers(checks, Numbers.with(a, b), op, 1, 0, 0, a, a, b);
            answers(checks, Numbers.with(a, b), op, 0, 0, 0, a, a, a);
        }
    }

    private static void wrong(Checks checks) {
        for (int bad : new int[] {-1, 64, Integer.MIN_VALUE, Integer.MAX_VALUE}) {
            for (int op = 0; op <= 8; op++) {
                refused(checks, op, bad, 1, 2);
                refused(checks, op, 0, bad, 2);
                refused(checks, op, 0, 1, bad);
                // Slot 9 is 0: a slot that is none comes before a division by 0.
                refused(checks, op, bad, 1, 9);
                refused(checks, op, bad, bad, bad);
            }
        }
        for (int op : new int[] {-1, 9, 10, 255, Integer.MIN_VALUE, Integer.MAX_VALUE}) {
            refused(checks, op, 0, 1, 2);
            refused(checks, op, 0, 1, 9);
        }
    }

    private static void refused(Checks checks, int op, int s, int left, int right) {
        ExactNumbers x = Numbers.with(Numbers.MARK, BigInteger.TEN, BigInteger.TWO);
        String call = "work(" + op + ", " + s + ", " + left + ", " + right + ")";
        checks.due(call, x.work(op, s, left, right), ExactNumbers.WRONG);
        checks.due(call, Numbers.take(x, 0), Numbers.MARK);
    }
}
