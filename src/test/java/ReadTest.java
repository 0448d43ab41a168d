import java.math.BigInteger;

/** Promise 4: read. */
public final class ReadTest {
    public static void main(String[] args) {
        Checks checks = new Checks();
        for (int base = 2; base <= 36; base++) {
            for (BigInteger number : Numbers.edges()) {
                fine(checks, number.abs(), base, "");
            }
            fine(checks, Numbers.GREATEST, base, "000");
            fine(checks, BigInteger.ZERO, base, "0".repeat(999));
            fine(checks, BigInteger.valueOf(1), base, "0".repeat(900));
            great(checks, Numbers.LIMIT.toString(base), base);
            great(checks, Numbers.LIMIT.add(BigInteger.ONE).toString(base), base);
            great(checks, Numbers.GREATEST.toString(base) + "0", base);
            great(checks, Numbers.LIMIT.shiftLeft(32).toString(base), base);
            great(checks, "0" + Numbers.power(640).toString(base), base);
            great(checks, "1" + "0".repeat(999), base);
            great(checks, Character.toString(Character.forDigit(base - 1, base)).repeat(1000), base);
            strange(checks, base);
        }
        wrong(checks);
        checks.end();
    }

    private static ExactNumbers marked(String digits) {
        ExactNumbers x = new ExactNumbers();
        Numbers.put(x, 5, Numbers.MARK);
        Numbers.type(x, digits);
        return x;
    }

    private static void fine(Checks checks, BigInteger number, int base, String zeros) {
        String text = zeros + number.toString(base);
        for (String digits : new String[] {text, text.toUpperCase()}) {
            ExactNumbers x = marked(digits);
            String call = "read of " + digits + " in base " + base;
            checks.due(call, x.read(5, base), ExactNumbers.FINE);
            checks.due(call, Numbers.take(x, 5), number);
            digitsAreGone(checks, call, x);
        }
    }

    private static void great(Checks checks, String digits, int base) {
        stays(checks, digits, 5, base, ExactNumbers.GREAT);
    }

    private static void stays(Checks checks, String digits, int slot, int base, int answer) {
        ExactNumbers x = marked(digits);
        String call = "read(" + slot + ", " + base + ") of " + digits;
        checks.due(call, x.read(slot, base), answer);
        checks.due(call, Numbers.take(x, 5), Numbers.MARK);
        digitsAreGone(checks, call, x);
    }

    private static void digitsAreGone(Checks checks, String call, ExactNumbers x) {
        checks.due(call + ", then again", x.read(6, 36), ExactNumbers.WRONG);
        x.digits('3');
        checks.due(call + ", then of 3", x.read(6, 36), ExactNumbers.FINE);
        checks.due(call + ", then of 3", x.cut(6, 64, true), 3);
    }

    /** A digit that the base has not is WRONG wherever it stands, TOO GREAT or not. */
    private static void strange(Checks checks, int base) {
        if (base == 36) {
            return;
        }
        String strange = Character.toString(Character.forDigit(base, 36));
        String great = "1".repeat(990);
        for (String digits : new String[] {
            strange, strange.toUpperCase(), "1" + strange, strange + "1", "0" + strange + "0",
            great + strange, strange + great, "111" + strange + great
        }) {
            stays(checks, digits, 5, base, ExactNumbers.WRONG);
        }
    }

    private static void wrong(Checks checks) {
        for (int slot : new int[] {-1, 64, Integer.MIN_VALUE, Integer.MAX_VALUE}) {
            stays(checks, "1", slot, 10, ExactNumbers.WRONG);
            stays(checks, "1".repeat(1000), slot, 10, ExactNumbers.WRONG);
        }
        for (int base : new int[] {-10, -1, 0, 1, 37, 38, Integer.MIN_VALUE, Integer.MAX_VALUE}) {
            stays(checks, "0", 5, base, ExactNumbers.WRONG);
            stays(checks, "1".repeat(1000), 5, base, ExactNumbers.WRONG);
        }
        stays(checks, "", 5, 10, ExactNumbers.WRONG);
    }
}
