import java.math.BigInteger;

/** Promise 3: digits. */
public final class DigitsTest {
    private static final String EIGHT_NINES = "99999999";

    public static void main(String[] args) {
        Checks checks = new Checks();
        checks.sentence("the bytes of word that are not 0, the highest first");
        order(checks);
        everyPattern(checks);
        checks.sentence("A digit more: none for a word of 0");
        noDigitMore(checks);
        checks.sentence("each 0 .. 9 a .. z A .. Z");
        letters(checks);
        checks.sentence("false, changing nothing, when one is none");
        refusals(checks);
        checks.sentence("or there would be more than 1000");
        for (int last = 1; last <= 8; last++) {
            upToMost(checks, last);
            overMost(checks, last);
        }
        mostByTwos(checks);
        checks.end();
    }

    private static void order(Checks checks) {
        number(checks, "12345678", Numbers.word("12345678"));
        number(checks, "1", Numbers.word("1"));
        number(checks, "1", '1' * (1L << 56));
        number(checks, "12", 0x0031000000003200L);
        number(checks, "9012", 0x3900300000310032L);
        number(checks, "123", '1', 0, '2', 0x3300L);
        number(checks, "1234567890", Numbers.word("12345678"), Numbers.word("90"));
    }

    /** Zeros in every choice of the eight places. */
    private static void everyPattern(Checks checks) {
        for (int pattern = 1; pattern < 256; pattern++) {
            StringBuilder bytes = new StringBuilder();
            StringBuilder digits = new StringBuilder();
            for (int place = 0; place < 8; place++) {
                boolean isDigit = (pattern >> place & 1) == 1;
                bytes.append(isDigit ? (char) ('1' + place) : (char) 0);
                digits.append(isDigit ? Integer.toString(1 + place) : "");
            }
            number(checks, digits.toString(), Numbers.word(bytes.toString()));
        }
    }

    private static void number(Checks checks, String want, long... words) {
        ExactNumbers x = new ExactNumbers();
        for (long word : words) {
            checks.due("digits(" + word + ")", x.digits(word), true);
        }
        checks.due("read after the digits " + want, x.read(0, 10), ExactNumbers.FINE);
        checks.due("the digits " + want, Numbers.take(x, 0), new BigInteger(want));
    }

    private static void noDigitMore(Checks checks) {
        ExactNumbers x = new ExactNumbers();
        checks.due("digits(0)", x.digits(0), true);
        checks.due("read after no digit", x.read(0, 10), ExactNumbers.WRONG);
        x.digits('4');
        checks.due("digits(0) after a digit", x.digits(0), true);
        x.digits('2');
        x.read(0, 10);
        checks.due("digits round a word of 0", x.cut(0, 64, true), 42);
        Numbers.type(x, "0".repeat(999) + "8");
        checks.due("digits(0) after 1000", x.digits(0), true);
        x.read(0, 10);
        checks.due("1000 digits and a word of 0", x.cut(0, 64, true), 8);
    }

    /** Every byte in every place, and the value of each that is a digit. */
    private static void letters(Checks checks) {
        for (int letter = 1; letter < 256; letter++) {
            int value = value(letter);
            for (int place = 0; place < 8; place++) {
                ExactNumbers x = new ExactNumbers();
                long word = (long) letter << 8 * place;
                checks.due("digits(" + word + ")", x.digits(word), value >= 0);
                checks.due("read after digits(" + word + ")", x.read(0, 36),
                        value >= 0 ? ExactNumbers.FINE : ExactNumbers.WRONG);
                checks.due("value of " + letter, x.cut(0, 64, true), Math.max(value, 0));
            }
        }
    }

    private static int value(int letter) {
        return letter < 128 ? Character.digit((char) letter, 36) : -1;
    }

    /** A word with one wrong byte, wherever it stands, adds none of its digits. */
    private static void refusals(Checks checks) {
        for (int bad = 1; bad < 256; bad++) {
            if (value(bad) >= 0) {
                continue;
            }
            for (int place = 0; place < 8; place++) {
                StringBuilder text = new StringBuilder("11111111");
                text.setCharAt(place, (char) bad);
                for (Slots slots : Slots.BOTH_WAYS) {
                    refused(checks, slots, text.toString());
                }
            }
        }
    }

    private static void refused(Checks checks, Slots slots, String text) {
        ExactNumbers x = slots.filled();
        x.write(0, 10);
        x.digits(Numbers.word("42"));
        String call = "digits(" + Numbers.word(text) + ")";
        checks.due(call, x.digits(Numbers.word(text)), false);
        checks.due(call + ", then the text", Numbers.writtenLatest(x), Long.toString(slots.number(0)));
        x.digits(Numbers.word("7"));
        x.read(0, 10);
        checks.due(call + ", then the digits round it", x.cut(0, 64, true), 427);
        slots.othersAreUntouched(checks, call, x, 0);
    }

    /** All but the last so many of 1000 digits. */
    private static ExactNumbers nearlyFull(Checks checks, int last) {
        ExactNumbers x = new ExactNumbers();
        checks.due("1000 - " + last + " digits", Numbers.type(x, "0".repeat(1000 - last)), true);
        return x;
    }

    private static void upToMost(Checks checks, int last) {
        ExactNumbers x = nearlyFull(checks, last);
        checks.due("a full 1000", x.digits(Numbers.word(EIGHT_NINES.substring(8 - last))), true);
        checks.due("digit 1001", x.digits('3'), false);
        checks.due("eight more", x.digits(Numbers.word("33333333")), false);
        checks.due("a wrong byte more", x.digits('!'), false);
        checks.due("read of 1000", x.read(0, 10), ExactNumbers.FINE);
        checks.due("1000 digits", x.cut(0, 64, true), Long.parseLong(EIGHT_NINES.substring(8 - last)));
        checks.due("digits again after read", x.digits('5'), true);
        x.read(1, 10);
        checks.due("the digit after read", x.cut(1, 64, true), 5);
    }

    /** A word that only in part would go is refused whole, and a shorter one still goes. */
    private static void overMost(Checks checks, int last) {
        for (int length = last + 1; length <= 8; length++) {
            ExactNumbers x = nearlyFull(checks, last);
            String word = "11111111".substring(8 - length);
            checks.due(length + " digits where " + last + " go", x.digits(Numbers.word(word)), false);
            for (int i = 0; i < last; i++) {
                checks.due("a digit that goes", x.digits('2'), true);
            }
            checks.due("digit 1001", x.digits('3'), false);
            x.read(0, 10);
            checks.due("1000 digits round a refused word", x.cut(0, 64, true),
                    Long.parseLong("22222222".substring(8 - last)));
        }
    }

    private static void mostByTwos(Checks checks) {
        ExactNumbers x = new ExactNumbers();
        for (int i = 0; i < 499; i++) {
            checks.due("two digits more", x.digits(Numbers.word("00")), true);
        }
        checks.due("the last two", x.digits(Numbers.word("12")), true);
        checks.due("two too many", x.digits(Numbers.word("34")), false);
        x.read(0, 10);
        checks.due("1000 digits by twos", x.cut(0, 64, true), 12);
    }
}
