import java.math.BigInteger;
import java.util.List;

/** Promise 5: work, against the Java library's numbers. */
public final class WorkTest {
    private static final BigInteger[] ENDS = {
        Numbers.GREATEST, Numbers.GREATEST.subtract(BigInteger.ONE), Numbers.power(511),
        Numbers.power(511).subtract(BigInteger.ONE), Numbers.power(256), BigInteger.TWO, BigInteger.ONE
    };

    public static void main(String[] args) {
        Checks checks = new Checks();
        checks.sentence("Slot s becomes x op y: op 0 + 1 - 2 * 3 / 4 % 5 & 6 | 7 ^ 8 &^");
        everyOp(checks);
        guessesTooGreatByTwo(checks);
        everySlot(checks);
        checks.sentence("Slot s becomes x op y, where s is x, y or both");
        for (BigInteger a : Numbers.edges()) {
            slotsThatAreTheSame(checks, a);
        }
        checks.sentence("GREAT");
        sumsRoundTheLimit(checks);
        productsRoundTheLimit(checks);
        endsWithEnds(checks);
        checks.sentence("ZERO");
        divisionsByZero(checks);
        checks.sentence("or WRONG (no such slots");
        noSuchSlots(checks);
        checks.sentence("or op)");
        noSuchOp(checks);
        checks.end();
    }

    private static void everyOp(Checks checks) {
        List<BigInteger> edges = Numbers.edges();
        for (BigInteger a : edges) {
            for (BigInteger b : edges) {
                allOps(checks, a, b);
            }
        }
        Sequence sequence = new Sequence(5);
        for (int i = 0; i < 4000; i++) {
            BigInteger b = sequence.number(512);
            allOps(checks, sequence.number(512), b);
            // Close to a multiple of b: where the guesses of a division are hardest.
            BigInteger near = b.multiply(sequence.number(512 - b.bitLength())).add(sequence.number(3));
            if (!Numbers.isTooGreat(near)) {
                allOps(checks, near, b);
            }
        }
    }

    /** Divisions whose quotient, guessed from the highest limbs alone, must be mended twice. */
    private static void guessesTooGreatByTwo(Checks checks) {
        BigInteger a = Numbers.power(95).subtract(Numbers.power(63));
        BigInteger b = Numbers.power(63).add(Numbers.power(32)).subtract(BigInteger.ONE);
        for (int up = 0; up <= 416; up += 13) {
            for (int apart = 0; up + apart <= 416; apart += 32) {
                BigInteger dividend = a.shiftLeft(up + apart);
                BigInteger divisor = b.shiftLeft(up);
                allOps(checks, dividend, divisor);
                allOps(checks, dividend.negate(), divisor.add(BigInteger.ONE));
                allOps(checks, dividend.add(BigInteger.ONE), divisor.negate());
            }
        }
    }

    private static void everySlot(Checks checks) {
        for (int op = 0; op <= 8; op++) {
            for (int slot = 0; slot < 64; slot++) {
                ExactNumbers x = Slots.EVEN_ABOVE.filled();
                int left = (slot + 17) % 64;
                int right = (slot + 40) % 64;
                String call = "work(" + op + ", " + slot + ", " + left + ", " + right + ")";
                checks.due(call, x.work(op, slot, left, right), ExactNumbers.FINE);
                BigInteger a = BigInteger.valueOf(Slots.EVEN_ABOVE.number(left));
                BigInteger b = BigInteger.valueOf(Slots.EVEN_ABOVE.number(right));
                checks.due(call, Numbers.take(x, slot), result(op, a, b));
                Slots.EVEN_ABOVE.othersAreUntouched(checks, call, x, slot);
            }
        }
    }

    private static BigInteger result(int op, BigInteger a, BigInteger b) {
        switch (op) {
            case 0: return a.add(b);
            case 1: return a.subtract(b);
            case 2: return a.multiply(b);
            case 3: return a.divide(b);
            case 4: return a.remainder(b);
            case 5: return a.and(b);
            case 6: return a.or(b);
            case 7: return a.xor(b);
            default: return a.andNot(b);
        }
    }

    private static void allOps(Checks checks, BigInteger a, BigInteger b) {
        // The expected number is put into a slot and compared there: fewer calls than its digits.
        ExactNumbers x = Numbers.with(a, b);
        for (int op = 0; op <= 8; op++) {
            x.set(2, 77, true);
            answers(checks, x, op, 2, 0, 1, a, b, BigInteger.valueOf(77));
        }
        checks.due("left of " + a + " and " + b, Numbers.take(x, 0), a);
        checks.due("right of " + a + " and " + b, Numbers.take(x, 1), b);
    }

    private static void answers(Checks checks, ExactNumbers x, int op, int s, int left, int right,
            BigInteger a, BigInteger b, BigInteger before) {
        String call = "work(" + op + ", " + s + ", " + left + ", " + right + ") of " + a + " and " + b;
        int answer = x.work(op, s, left, right);
        BigInteger want = before;
        if ((op == 3 || op == 4) && b.signum() == 0) {
            checks.due(call, answer, ExactNumbers.ZERO);
        } else if (Numbers.isTooGreat(result(op, a, b))) {
            checks.due(call, answer, ExactNumbers.GREAT);
        } else {
            checks.due(call, answer, ExactNumbers.FINE);
            want = result(op, a, b);
        }
        Numbers.put(x, 63, want);
        checks.due(call + " is " + want, x.compare(s, 63), 0);
    }

    private static void slotsThatAreTheSame(Checks checks, BigInteger a) {
        BigInteger b = new BigInteger("-123456789012345678901234567890");
        for (int op = 0; op <= 8; op++) {
            sameSlots(checks, op, a, b);
        }
    }

    private static void sameSlots(Checks checks, int op, BigInteger a, BigInteger b) {
        answers(checks, Numbers.with(a, b), op, 0, 0, 1, a, b, a);
        answers(checks, Numbers.with(a, b), op, 1, 0, 1, a, b, b);
        answers(checks, Numbers.with(a, b), op, 1, 0, 0, a, a, b);
        answers(checks, Numbers.with(a, b), op, 0, 0, 0, a, a, a);
    }

    /** Sums and differences that are 2 to the power 512, or a little less or more. */
    private static void sumsRoundTheLimit(Checks checks) {
        for (BigInteger a : Numbers.edges()) {
            for (int step = -2; step <= 2; step++) {
                BigInteger total = Numbers.LIMIT.add(BigInteger.valueOf(step));
                for (BigInteger want : new BigInteger[] {total, total.negate()}) {
                    BigInteger b = want.subtract(a);
                    if (!Numbers.isTooGreat(b)) {
                        sameSlots(checks, 0, a, b);
                        sameSlots(checks, 1, a, b.negate());
                        allOps(checks, a, b);
                        allOps(checks, a, b.negate());
                    }
                }
            }
        }
    }

    /** Products of two factors whose lengths are together those of 2 to the power 512. */
    private static void productsRoundTheLimit(Checks checks) {
        for (int exponent = 1; exponent < 512; exponent++) {
            BigInteger a = Numbers.power(exponent);
            BigInteger b = Numbers.power(512 - exponent);
            BigInteger less = b.subtract(BigInteger.ONE);
            for (BigInteger left : new BigInteger[] {a, a.negate()}) {
                sameSlots(checks, 2, left, b);
                sameSlots(checks, 2, left, less);
                sameSlots(checks, 2, left.add(BigInteger.ONE), less);
                sameSlots(checks, 2, left, less.negate());
            }
        }
        for (BigInteger factor : new BigInteger[] {Numbers.power(256), Numbers.power(128)}) {
            // (f - 1) * (f + 1) is f * f - 1.
            sameSlots(checks, 2, factor.subtract(BigInteger.ONE), factor.add(BigInteger.ONE));
            sameSlots(checks, 2, factor, factor);
        }
    }

    /** - (2 to the power 512) is made out of bits, too. */
    private static void endsWithEnds(Checks checks) {
        for (BigInteger left : ENDS) {
            for (BigInteger right : ENDS) {
                for (int op = 0; op <= 8; op++) {
                    sameSlots(checks, op, left, right);
                    sameSlots(checks, op, left.negate(), right);
                    sameSlots(checks, op, left, right.negate());
                    sameSlots(checks, op, left.negate(), right.negate());
                }
            }
        }
    }

    private static void divisionsByZero(Checks checks) {
        for (int op = 3; op <= 4; op++) {
            for (BigInteger a : Numbers.edges()) {
                dividedByZero(checks, op, a, 2);
                dividedByZero(checks, op, a, 0);
                dividedByZero(checks, op, a, 1);
            }
            for (Slots slots : Slots.BOTH_WAYS) {
                ExactNumbers x = slots.filled();
                x.set(40, 0, true);
                checks.due("work(" + op + ") by 0", x.work(op, 7, 8, 40), ExactNumbers.ZERO);
                slots.othersAreUntouched(checks, "work(" + op + ") by 0", x, 40);
                checks.due("the 0 itself", x.bits(40), 0);
            }
        }
        for (int op : new int[] {0, 1, 2, 5, 6, 7, 8}) {
            ExactNumbers x = new ExactNumbers();
            checks.due("work(" + op + ") of 0 and 0", x.work(op, 0, 1, 2), ExactNumbers.FINE);
        }
    }

    private static void dividedByZero(Checks checks, int op, BigInteger a, int target) {
        ExactNumbers x = Numbers.with(a, BigInteger.ZERO, Numbers.MARK);
        BigInteger before = new BigInteger[] {a, BigInteger.ZERO, Numbers.MARK}[target];
        String call = "work(" + op + ", " + target + ", 0, 1) of " + a + " and 0";
        checks.due(call, x.work(op, target, 0, 1), ExactNumbers.ZERO);
        checks.due(call, Numbers.take(x, target), before);
    }

    private static void noSuchSlots(Checks checks) {
        for (int bad : Slots.NONE) {
            for (int op = 0; op <= 8; op++) {
                refused(checks, op, bad, 1, 2);
                refused(checks, op, 0, bad, 2);
                refused(checks, op, 0, 1, bad);
                refused(checks, op, bad, bad, bad);
                // Slot 9 is 0: a slot that is none comes before a division by 0.
                refused(checks, op, bad, 1, 9);
                refused(checks, op, 0, bad, 9);
                // Slot 8 is the greatest: it comes before what is too great.
                refused(checks, op, bad, 8, 8);
            }
        }
    }

    private static void noSuchOp(Checks checks) {
        for (int op : new int[] {
            -1, 9, 10, 16, 255, 256, 259, -252, Integer.MIN_VALUE, Integer.MAX_VALUE
        }) {
            refused(checks, op, 0, 1, 2);
            refused(checks, op, 0, 1, 9);
            refused(checks, op, 0, 8, 8);
            refused(checks, op, 0, 0, 0);
        }
    }

    private static void refused(Checks checks, int op, int s, int left, int right) {
        for (Slots slots : Slots.BOTH_WAYS) {
            refused(checks, slots, op, s, left, right);
        }
    }

    private static void refused(Checks checks, Slots slots, int op, int s, int left, int right) {
        ExactNumbers x = slots.filledWithEnds();
        String call = "work(" + op + ", " + s + ", " + left + ", " + right + ")";
        checks.due(call, x.work(op, s, left, right), ExactNumbers.WRONG);
        slots.areUntouchedWithEnds(checks, call, x);
    }
}
