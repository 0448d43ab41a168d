import java.math.BigInteger;

/** Promise 4: read. */
public final class ReadTest {
    private static final int SLOT = 5;

    public static void main(String[] args) {
        Checks checks = new Checks();
        checks.sentence("Slot s becomes the number that the digits are in a base, 2 .. 36");
        everyBase(checks);
        everySlot(checks);
        checks.sentence("they are none then");
        noneThen(checks);
        checks.sentence("GREAT");
        great(checks);
        checks.sentence("WRONG (no such slot");
        for (int slot : Slots.NONE) {
            stays(checks, "1", slot, 10, ExactNumbers.WRONG);
        }
        checks.sentence("or base");
        for (int base : Numbers.NO_BASES) {
            stays(checks, "0", SLOT, base, ExactNumbers.WRONG);
            stays(checks, "1", SLOT, base, ExactNumbers.WRONG);
        }
        checks.sentence("no digits");
        withoutDigits(checks);
        checks.sentence("or one that the base has not");
        for (int base = 2; base < 36; base++) {
            strange(checks, base, "");
        }
        checks.sentence("even if they are TOO GREAT besides");
        wrongBeforeGreat(checks);
        checks.sentence("the digits are gone in any case");
        goneInAnyCase(checks);
        checks.end();
    }

    private static ExactNumbers marked(String digits) {
        ExactNumbers x = new ExactNumbers();
        Numbers.put(x, SLOT, Numbers.MARK);
        Numbers.type(x, digits);
        return x;
    }

    private static void everyBase(Checks checks) {
        for (int base = 2; base <= 36; base++) {
            for (BigInteger number : Numbers.edges()) {
                becomes(checks, number.abs(), base, "");
            }
            becomes(checks, Numbers.GREATEST, base, "000");
            String greatest = Numbers.GREATEST.toString(base);
            becomes(checks, Numbers.GREATEST, base, "0".repeat(1000 - greatest.length()));
            becomes(checks, BigInteger.ZERO, base, "0".repeat(999));
            becomes(checks, BigInteger.ONE, base, "0".repeat(999));
            becomes(checks, BigInteger.valueOf(base - 1), base, "");
        }
    }

    private static void becomes(Checks checks, BigInteger number, int base, String zeros) {
        String text = zeros + number.toString(base);
        for (String digits : new String[] {text, text.toUpperCase()}) {
            ExactNumbers x = marked(digits);
            String call = "read of " + digits + " in base " + base;
            checks.due(call, x.read(SLOT, base), ExactNumbers.FINE);
            checks.due(call, Numbers.take(x, SLOT), number);
        }
    }

    private static void everySlot(Checks checks) {
        for (int slot = 0; slot < 64; slot++) {
            ExactNumbers x = Slots.EVEN_ABOVE.filled();
            Numbers.type(x, "12345");
            checks.due("read(" + slot + ", 10)", x.read(slot, 10), ExactNumbers.FINE);
            checks.due("read(" + slot + ", 10)", Numbers.take(x, slot), BigInteger.valueOf(12345));
            Slots.EVEN_ABOVE.othersAreUntouched(checks, "read(" + slot + ", 10)", x, slot);
        }
    }

    private static void noneThen(Checks checks) {
        ExactNumbers x = marked("987654321");
        x.read(SLOT, 10);
        digitsAreGone(checks, "read", x);
        checks.due("number after a read without digits", x.cut(SLOT, 64, true), 987654321);
    }

    private static void digitsAreGone(Checks checks, String call, ExactNumbers x) {
        checks.due(call + ", then again", x.read(6, 36), ExactNumbers.WRONG);
        x.digits('3');
        checks.due(call + ", then of 3", x.read(6, 36), ExactNumbers.FINE);
        checks.due(call + ", then of 3", x.cut(6, 64, true), 3);
    }

    private static void great(Checks checks) {
        for (int base = 2; base <= 36; base++) {
            String limit = Numbers.LIMIT.toString(base);
            great(checks, limit, base);
            great(checks, limit.toUpperCase(), base);
            great(checks, "0".repeat(1000 - limit.length()) + limit, base);
            great(checks, Numbers.LIMIT.add(BigInteger.ONE).toString(base), base);
            great(checks, Numbers.GREATEST.toString(base) + "0", base);
            great(checks, Numbers.LIMIT.shiftLeft(32).toString(base), base);
            great(checks, "0" + Numbers.power(640).toString(base), base);
            great(checks, "1" + "0".repeat(999), base);
            great(checks, Character.toString(Character.forDigit(base - 1, base)).repeat(1000), base);
        }
    }

    private static void great(Checks checks, String digits, int base) {
        stays(checks, digits, SLOT, base, ExactNumbers.GREAT);
    }

    private static void stays(Checks checks, String digits, int slot, int base, int answer) {
        for (Slots slots : Slots.BOTH_WAYS) {
            ExactNumbers x = slots.filled();
            Numbers.type(x, digits);
            String call = "read(" + slot + ", " + base + ") of " + digits;
            checks.due(call, x.read(slot, base), answer);
            slots.areUntouched(checks, call, x);
        }
    }

    private static void withoutDigits(Checks checks) {
        stays(checks, "", SLOT, 10, ExactNumbers.WRONG);
        stays(checks, "", SLOT, 2, ExactNumbers.WRONG);
        stays(checks, "", SLOT, 36, ExactNumbers.WRONG);
        // Refused digits are none.
        stays(checks, "1!", SLOT, 10, ExactNumbers.WRONG);
        ExactNumbers x = marked("7");
        x.read(SLOT, 10);
        checks.due("a second read", x.read(SLOT, 10), ExactNumbers.WRONG);
        checks.due("number after a second read", x.cut(SLOT, 64, true), 7);
    }

    /** The first digit that the base has not, wherever it stands. */
    private static void strange(Checks checks, int base, String others) {
        String strange = Character.toString(Character.forDigit(base, 36));
        String half = others.substring(others.length() / 2);
        for (String digits : new String[] {
            strange + others, others + strange, "1" + strange + others, others + strange + "1",
            "0" + strange + "0" + others, half + strange + half
        }) {
            stays(checks, digits, SLOT, base, ExactNumbers.WRONG);
            stays(checks, digits.toUpperCase(), SLOT, base, ExactNumbers.WRONG);
        }
        stays(checks, others + "z", SLOT, base, ExactNumbers.WRONG);
    }

    private static void wrongBeforeGreat(Checks checks) {
        for (int base = 2; base < 36; base++) {
            strange(checks, base, "1".repeat(990));
            // Too great by the last digit alone, which is also the strange one.
            String greatest = Numbers.GREATEST.toString(base);
            String strange = Character.toString(Character.forDigit(base, 36));
            stays(checks, greatest + strange, SLOT, base, ExactNumbers.WRONG);
        }
        for (int slot : Slots.NONE) {
            stays(checks, "1".repeat(1000), slot, 10, ExactNumbers.WRONG);
        }
        for (int base : Numbers.NO_BASES) {
            stays(checks, "1".repeat(1000), SLOT, base, ExactNumbers.WRONG);
        }
    }

    private static void goneInAnyCase(Checks checks) {
        goneAfter(checks, "1234", SLOT, 10, ExactNumbers.FINE);
        goneAfter(checks, "1".repeat(1000), SLOT, 10, ExactNumbers.GREAT);
        goneAfter(checks, Numbers.LIMIT.toString(2), SLOT, 2, ExactNumbers.GREAT);
        goneAfter(checks, "12a4", SLOT, 10, ExactNumbers.WRONG);
        goneAfter(checks, "z" + "1".repeat(999), SLOT, 35, ExactNumbers.WRONG);
        for (int slot : Slots.NONE) {
            goneAfter(checks, "1234", slot, 10, ExactNumbers.WRONG);
            goneAfter(checks, "1".repeat(1000), slot, 10, ExactNumbers.WRONG);
        }
        for (int base : Numbers.NO_BASES) {
            goneAfter(checks, "1234", SLOT, base, ExactNumbers.WRONG);
            goneAfter(checks, "1".repeat(1000), SLOT, base, ExactNumbers.WRONG);
        }
    }

    /** Gone, so that a full 1000 more go. */
    private static void goneAfter(Checks checks, String digits, int slot, int base, int answer) {
        ExactNumbers x = marked(digits);
        String call = "read(" + slot + ", " + base + ") of " + digits;
        checks.due(call, x.read(slot, base), answer);
        digitsAreGone(checks, call, x);
        checks.due(call + ", then 1000 more", Numbers.type(x, "0".repeat(999) + "9"), true);
        checks.due(call + ", then of 1000 more", x.read(7, 10), ExactNumbers.FINE);
        checks.due(call + ", then of 1000 more", x.cut(7, 64, true), 9);
    }
}
