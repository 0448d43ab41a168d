import java.math.BigInteger;

/** Promise 7: turn. */
public final class TurnTest {
    public static void main(String[] args) {
        Checks checks = new Checks();
        for (BigInteger number : Numbers.edges()) {
            both(checks, number);
        }
        Sequence sequence = new Sequence(7);
        for (int i = 0; i < 500; i++) {
            both(checks, sequence.number(512));
        }
        ExactNumbers x = Numbers.with(BigInteger.ZERO);
        x.turn(0, 0, false);
        checks.due("-0 beside 0", x.compare(0, 1), 0);
        checks.due("-0 fits without a sign", x.fits(0, 1, false), true);
        wrong(checks);
        checks.end();
    }

    private static void both(Checks checks, BigInteger number) {
        for (int target : new int[] {0, 1}) {
            turned(checks, number, false, target, number.negate());
            turned(checks, number, true, target, number.not());
        }
    }

    private static void turned(
            Checks checks, BigInteger number, boolean not, int target, BigInteger want) {
        ExactNumbers x = Numbers.with(number, Numbers.MARK);
        BigInteger before = target == 0 ? number : Numbers.MARK;
        boolean isGreat = not && number.equals(Numbers.GREATEST);
        String call = "turn(" + target + ", 0, " + not + ") of " + number;
        checks.due(call, x.turn(target, 0, not), isGreat ? ExactNumbers.GREAT : ExactNumbers.FINE);
        checks.due(call, Numbers.take(x, target), isGreat ? before : want);
        if (target != 0) {
            checks.due(call + " keeps", Numbers.take(x, 0), number);
        }
    }

    private static void wrong(Checks checks) {
        for (int bad : new int[] {-1, 64, Integer.MIN_VALUE, Integer.MAX_VALUE}) {
            for (boolean not : new boolean[] {true, false}) {
                ExactNumbers x = Numbers.with(Numbers.MARK);
                checks.due("turn(" + bad + ", 0)", x.turn(bad, 0, not), ExactNumbers.WRONG);
                checks.due("turn(0, " + bad + ")", x.turn(0, bad, not), ExactNumbers.WRONG);
                checks.due("turn of wrong slots", x.turn(bad, bad, not), ExactNumbers.WRONG);
                checks.due("slot 0 after a wrong turn", Numbers.take(x, 0), Numbers.MARK);
            }
        }
    }
}
