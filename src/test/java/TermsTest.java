import java.math.BigInteger;

/** The part 'Terms', which holds for all promises. */
public final class TermsTest {
    private static final BigInteger ONE = BigInteger.ONE;
    private static final BigInteger TWO = BigInteger.TWO;
    private static final BigInteger MOST = Numbers.GREATEST;
    private static final BigInteger LEAST = MOST.negate();

    private static final int SHIFT_LEFT = 9;
    private static final int NOT = 10;
    private static final int NEGATE = 11;

    public static void main(String[] args) {
        Checks checks = new Checks();
        checks.sentence("There are 64 SLOTS 0 .. 63, each with a NUMBER");
        slots(checks);
        checks.sentence("of less than 2 to the power 512, without its sign");
        justHeld(checks);
        checks.sentence("What would be greater is TOO GREAT: the slot stays as it was");
        tooGreat(checks);
        checks.sentence("/ and % go towards 0");
        towardsZero(checks);
        checks.sentence("(the rest has the sign of the left one)");
        signOfTheRest(checks);
        checks.sentence("& | ^ &^ are on numbers with endless bits of their sign in front");
        endlessBits(checks);
        checks.sentence("(NOT x is -1 - x)");
        notByDifference(checks);
        checks.sentence("A shift to the left is by 0 .. 1000, x * 2 to that power");
        leftByProducts(checks);
        checks.sentence("one to the right is x / 2 to that power, towards below");
        towardsBelow(checks);
        checks.end();
    }

    /** 64 numbers at once, of all 512 bits, each in its own slot. */
    private static void slots(Checks checks) {
        ExactNumbers x = new ExactNumbers();
        for (int slot = 0; slot < 64; slot++) {
            x.set(slot, slot + 1, true);
            x.shift(slot, slot, 505, true);
            x.turn(slot, slot, slot % 3 == 0);
        }
        for (int slot = 0; slot < 64; slot++) {
            int shift = slot % 2 == 0 ? 505 : 300;
            BigInteger number = BigInteger.valueOf(slot + 1).shiftLeft(505);
            BigInteger want = slot % 3 == 0 ? number.not() : number.negate();
            checks.due("bits of slot " + slot, x.bits(slot), want.abs().bitLength());
            x.shift(slot, slot, shift, false);
            checks.due("slot " + slot, x.cut(slot, 64, true), want.shiftRight(shift).longValue());
        }
    }

    /** Does a call into slot s with the numbers in the slots a and b. */
    private static int call(ExactNumbers x, int op, int s, int a, int b) {
        switch (op) {
            case SHIFT_LEFT: return x.shift(s, a, (int) x.cut(b, 32, true), true);
            case NOT: return x.turn(s, a, true);
            case NEGATE: return x.turn(s, a, false);
            default: return x.work(op, s, a, b);
        }
    }

    private static void justHeld(Checks checks) {
        BigInteger less = MOST.subtract(ONE);
        BigInteger half = Numbers.power(511);
        BigInteger root = Numbers.power(256);
        fine(checks, 0, less, ONE, MOST);
        fine(checks, 0, less.negate(), ONE.negate(), LEAST);
        fine(checks, 0, half, half.subtract(ONE), MOST);
        fine(checks, 1, less, ONE.negate(), MOST);
        fine(checks, 1, less.negate(), ONE, LEAST);
        fine(checks, 2, root.subtract(ONE), root.add(ONE), MOST);
        fine(checks, 2, root.subtract(ONE), root.add(ONE).negate(), LEAST);
        fine(checks, 3, MOST, ONE.negate(), LEAST);
        fine(checks, 3, LEAST, ONE.negate(), MOST);
        fine(checks, 4, less, MOST, less);
        fine(checks, 4, less.negate(), MOST, less.negate());
        fine(checks, 5, MOST, ONE.negate(), MOST);
        fine(checks, 5, LEAST, LEAST, LEAST);
        fine(checks, 6, half, half.subtract(ONE), MOST);
        fine(checks, 6, LEAST, ONE, LEAST);
        fine(checks, 7, half, half.subtract(ONE), MOST);
        fine(checks, 7, less, ONE.negate(), LEAST);
        fine(checks, 8, MOST, BigInteger.ZERO, MOST);
        fine(checks, 8, LEAST, TWO, LEAST);
        fine(checks, SHIFT_LEFT, MOST, BigInteger.ZERO, MOST);
        fine(checks, SHIFT_LEFT, LEAST, BigInteger.ZERO, LEAST);
        fine(checks, SHIFT_LEFT, ONE.negate(), BigInteger.valueOf(511), half.negate());
        fine(checks, NOT, less, ONE, LEAST);
        fine(checks, NOT, LEAST, ONE, less);
        fine(checks, NEGATE, MOST, ONE, LEAST);
        fine(checks, NEGATE, LEAST, ONE, MOST);
    }

    private static void fine(Checks checks, int op, BigInteger a, BigInteger b, BigInteger want) {
        for (int target = 0; target <= 2; target++) {
            ExactNumbers x = Numbers.with(a, b, Numbers.MARK);
            String call = "call " + op + " of " + a + " and " + b;
            checks.due(call, call(x, op, target, 0, 1), ExactNumbers.FINE);
            checks.due(call, Numbers.take(x, target), want);
        }
    }

    /** Every call that can make 2 to the power 512, with either sign, or much more. */
    private static void tooGreat(Checks checks) {
        BigInteger half = Numbers.power(511);
        great(checks, 0, MOST, ONE);
        great(checks, 0, LEAST, ONE.negate());
        great(checks, 0, half, half);
        great(checks, 0, MOST, MOST);
        great(checks, 1, MOST, ONE.negate());
        great(checks, 1, LEAST, ONE);
        great(checks, 1, LEAST, MOST);
        great(checks, 2, half, TWO);
        great(checks, 2, half, TWO.negate());
        great(checks, 2, Numbers.power(256), Numbers.power(256));
        great(checks, 2, MOST, LEAST);
        great(checks, 5, LEAST, TWO.negate());
        great(checks, 5, LEAST, half.negate());
        great(checks, 7, LEAST, ONE);
        great(checks, 7, MOST, ONE.negate());
        great(checks, 8, LEAST, ONE);
        great(checks, 8, ONE.negate(), MOST);
        great(checks, SHIFT_LEFT, ONE, BigInteger.valueOf(512));
        great(checks, SHIFT_LEFT, ONE.negate(), BigInteger.valueOf(512));
        great(checks, SHIFT_LEFT, MOST, ONE);
        great(checks, SHIFT_LEFT, LEAST, ONE);
        great(checks, SHIFT_LEFT, ONE, BigInteger.valueOf(1000));
        great(checks, SHIFT_LEFT, MOST, BigInteger.valueOf(1000));
        great(checks, NOT, MOST, ONE);
        readsThatAreGreat(checks);
    }

    private static void great(Checks checks, int op, BigInteger a, BigInteger b) {
        for (int target = 0; target <= 3; target++) {
            for (int kept = 0; kept <= 3; kept++) {
                BigInteger[] before = {a, b, Numbers.MARK, Numbers.MARK.negate()};
                ExactNumbers x = Numbers.with(before);
                String call = "call " + op + " of " + a + " and " + b;
                checks.due(call, call(x, op, target, 0, 1), ExactNumbers.GREAT);
                checks.due(call + ", then slot " + kept, Numbers.take(x, kept), before[kept]);
            }
        }
    }

    private static void readsThatAreGreat(Checks checks) {
        for (BigInteger before : new BigInteger[] {BigInteger.ZERO, Numbers.MARK, MOST, LEAST}) {
            ExactNumbers x = Numbers.with(before);
            Numbers.type(x, Numbers.LIMIT.toString(36));
            checks.due("read of 2 to the power 512", x.read(0, 36), ExactNumbers.GREAT);
            checks.due("slot after it", Numbers.take(x, 0), before);
        }
    }

    private static void small(Checks checks, int op, long a, long b, long want) {
        ExactNumbers x = new ExactNumbers();
        x.set(0, a, true);
        x.set(1, b, true);
        String call = "work(" + op + ") of " + a + " and " + b;
        checks.due(call, x.work(op, 2, 0, 1), ExactNumbers.FINE);
        checks.due(call, Numbers.take(x, 2), BigInteger.valueOf(want));
    }

    private static void towardsZero(Checks checks) {
        small(checks, 3, 7, 2, 3);
        small(checks, 3, -7, 2, -3);
        small(checks, 3, 7, -2, -3);
        small(checks, 3, -7, -2, 3);
        small(checks, 3, 1, 2, 0);
        small(checks, 3, -1, 2, 0);
        small(checks, 3, 1, -2, 0);
        small(checks, 3, -1, -2, 0);
        small(checks, 3, 0, -5, 0);
        for (long a = -20; a <= 20; a++) {
            for (long b = -20; b <= 20; b++) {
                if (b != 0) {
                    small(checks, 3, a, b, a / b);
                }
            }
        }
        fine(checks, 3, LEAST, TWO, Numbers.power(511).subtract(ONE).negate());
        fine(checks, 3, MOST.subtract(ONE).negate(), MOST, BigInteger.ZERO);
        fine(checks, 3, LEAST, MOST, ONE.negate());
    }

    private static void signOfTheRest(Checks checks) {
        small(checks, 4, 7, 2, 1);
        small(checks, 4, -7, 2, -1);
        small(checks, 4, 7, -2, 1);
        small(checks, 4, -7, -2, -1);
        // A rest of 0 has no sign.
        small(checks, 4, -8, 2, 0);
        small(checks, 4, -8, -2, 0);
        small(checks, 4, 0, -2, 0);
        for (long a = -20; a <= 20; a++) {
            for (long b = -20; b <= 20; b++) {
                if (b != 0) {
                    small(checks, 4, a, b, a % b);
                }
            }
        }
        fine(checks, 4, LEAST, TWO, ONE.negate());
        fine(checks, 4, LEAST, TWO.negate(), ONE.negate());
        fine(checks, 4, MOST, TWO.negate(), ONE);
        fine(checks, 4, LEAST, MOST, BigInteger.ZERO);
    }

    private static void endlessBits(Checks checks) {
        for (long a = -9; a <= 9; a++) {
            for (long b = -9; b <= 9; b++) {
                small(checks, 5, a, b, a & b);
                small(checks, 6, a, b, a | b);
                small(checks, 7, a, b, a ^ b);
                small(checks, 8, a, b, a & ~b);
            }
        }
        // Bits far above those that the shorter number has of its own.
        for (int exponent = 1; exponent < 512; exponent++) {
            BigInteger power = Numbers.power(exponent);
            fine(checks, 5, ONE.negate(), power, power);
            fine(checks, 6, ONE.negate(), power, ONE.negate());
            fine(checks, 7, ONE.negate(), power, power.add(ONE).negate());
            fine(checks, 8, power, ONE.negate(), BigInteger.ZERO);
            fine(checks, 8, power, ONE, power);
        }
    }

    private static void notByDifference(Checks checks) {
        for (BigInteger number : Numbers.edges()) {
            ExactNumbers x = Numbers.with(number, ONE.negate());
            int difference = x.work(1, 2, 1, 0);
            checks.due("NOT of " + number, x.turn(3, 0, true), difference);
            checks.due("NOT of " + number + " beside -1 - it", x.compare(2, 3), 0);
        }
    }

    private static void leftByProducts(Checks checks) {
        for (BigInteger number : Numbers.edges()) {
            for (int n = 0; n < 512; n += 7) {
                ExactNumbers x = Numbers.with(number, Numbers.power(n));
                int product = x.work(2, 2, 0, 1);
                String call = number + " shifted by " + n;
                checks.due(call, x.shift(3, 0, n, true), product);
                checks.due(call + " beside the product", x.compare(2, 3), 0);
            }
        }
        // Powers that no slot holds: 0 stays 0, and all else is too great.
        for (int n = 512; n <= 1000; n++) {
            fine(checks, SHIFT_LEFT, BigInteger.ZERO, BigInteger.valueOf(n), BigInteger.ZERO);
            great(checks, SHIFT_LEFT, ONE.negate(), BigInteger.valueOf(n));
        }
    }

    private static void towardsBelow(Checks checks) {
        for (long number = -40; number <= 40; number++) {
            for (int n = 0; n <= 7; n++) {
                right(checks, BigInteger.valueOf(number), n, BigInteger.valueOf(number >> n));
            }
        }
        for (int n : new int[] {512, 513, 544, 999, 1000}) {
            right(checks, MOST, n, BigInteger.ZERO);
            right(checks, LEAST, n, ONE.negate());
            right(checks, ONE, n, BigInteger.ZERO);
            right(checks, ONE.negate(), n, ONE.negate());
            right(checks, BigInteger.ZERO, n, BigInteger.ZERO);
        }
        for (int n = 1; n < 512; n++) {
            BigInteger power = Numbers.power(n);
            // Nothing is lost, the lowest bit alone is lost, all but the lowest is lost.
            right(checks, power.negate(), n, ONE.negate());
            right(checks, power.add(ONE).negate(), n, TWO.negate());
            right(checks, power.subtract(ONE).negate(), n, ONE.negate());
            right(checks, LEAST, n, Numbers.power(512 - n).negate());
        }
    }

    private static void right(Checks checks, BigInteger number, int n, BigInteger want) {
        ExactNumbers x = Numbers.with(number, Numbers.MARK);
        String call = "shift(1, 0, " + n + ", false) of " + number;
        checks.due(call, x.shift(1, 0, n, false), ExactNumbers.FINE);
        checks.due(call, Numbers.take(x, 1), want);
    }
}
