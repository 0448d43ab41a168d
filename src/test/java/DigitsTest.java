import java.math.BigInteger;

/** Promise 3: digits. */
public final class DigitsTest {
    public static void main(String[] args) {
        Checks checks = new Checks();
        order(checks);
        letters(checks);
        refusals(checks);
        most(checks);
        checks.end();
    }

    private static void order(Checks checks) {
        number(checks, "12345678", 10, Numbers.word("12345678"));
        number(checks, "1", 10, Numbers.word("1"));
        number(checks, "1", 10, '1' * (1L << 56));
        number(checks, "12", 10, 0x0031000000003200L);
        number(checks, "9012", 10, 0x3900300000310032L);
        number(checks, "123", 10, '1', 0, '2', 0x3300L);
        number(checks, "1234567890", 10, Numbers.word("12345678"), Numbers.word("90"));
    }

    private static void number(Checks checks, String want, int base, long... words) {
        ExactNumbers x = new ExactNumbers();
        for (long word : words) {
            checks.due("digits(" + word + ")", x.digits(word), true);
        }
        checks.due("read after the digits " + want, x.read(0, base), ExactNumbers.FINE);
        checks.due("the digits " + want, Numbers.take(x, 0), new BigInteger(want, base));
    }

    /** Every byte in every place, and the value of each that is a digit. */
    private static void letters(Checks checks) {
        for (int letter = 1; letter < 256; letter++) {
            int value = value(letter);
            for (int place = 0; place < 8; place++) {
                ExactNumbers x = new ExactNumbers();
                long word = (long) letter << 8 * place;
                checks.due("digits(" + word + ")", x.digits(word), value >= 0);
                checks.due("read after digits(" + word + ")", x.read(0, 36),
                        value >= 0 ? ExactNumbers.FINE : ExactNumbers.WRONG);
                checks.due("value of " + letter, x.cut(0, 64, true), Math.max(value, 0));
            }
        }
    }

    private static int value(int letter) {
        return letter < 128 ? Character.digit((char) letter, 36) : -1;
    }

    /** A word with one wrong byte, wherever it stands, adds none of its digits. */
    private static void refusals(Checks checks) {
        for (char bad : new char[] {'!', '-', '+', '/', ':', '@', '[', '`', '{', ' ', 1, 127, 128, 255}) {
            for (int place = 0; place < 8; place++) {
                ExactNumbers x = new ExactNumbers();
                x.digits(Numbers.word("42"));
                StringBuilder text = new StringBuilder("11111111");
                text.setCharAt(place, bad);
                checks.due("digits with " + (int) bad, x.digits(Numbers.word(text.toString())), false);
                x.digits(Numbers.word("7"));
                x.read(0, 10);
                checks.due("digits round a refused word", x.cut(0, 64, true), 427);
            }
        }
    }

    private static void most(Checks checks) {
        for (int last = 1; last <= 8; last++) {
            ExactNumbers x = new ExactNumbers();
            checks.due("1000 - " + last + " digits", Numbers.type(x, "0".repeat(1000 - last)), true);
            if (last < 8) {
                checks.due("one too many", x.digits(Numbers.word("11111111".substring(7 - last))), false);
            }
            checks.due("a full 1000", x.digits(Numbers.word("22222222".substring(8 - last))), true);
            checks.due("digit 1001", x.digits('3'), false);
            checks.due("eight more", x.digits(Numbers.word("33333333")), false);
            checks.due("no digit more", x.digits(0), true);
            checks.due("a wrong byte more", x.digits('!'), false);
            checks.due("read of 1000", x.read(0, 10), ExactNumbers.FINE);
            checks.due("the last of 1000 digits", x.cut(0, 64, true),
                    Long.parseLong("22222222".substring(8 - last)));
            checks.due("digits again after read", x.digits('5'), true);
            x.read(1, 10);
            checks.due("the digit after read", x.cut(1, 64, true), 5);
        }
        ExactNumbers x = new ExactNumbers();
        checks.due("digits(0)", x.digits(0), true);
        checks.due("read after no digit", x.read(0, 10), ExactNumbers.WRONG);
    }
}
