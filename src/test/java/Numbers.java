import java.math.BigInteger;
import java.util.ArrayList;
import java.util.List;

/** Puts numbers of the Java library into slots and takes them out; numbers to test with. */
final class Numbers {
    static final BigInteger LIMIT = BigInteger.ONE.shiftLeft(512);
    static final BigInteger GREATEST = LIMIT.subtract(BigInteger.ONE);
    /** A number that no test expects by chance, to see whether a slot stayed as it was. */
    static final BigInteger MARK = new BigInteger("-271828182845904523536028747135266249");

    /** No bases: beside the ends, what a byte of would be a base, and the ends of int. */
    static final int[] NO_BASES = {
        Integer.MIN_VALUE, -36, -10, -2, -1, 0, 1, 37, 38, 64, 258, 266, 292, Integer.MAX_VALUE
    };
    /** No lengths of words: beside the ends, what six or eight bits of would be one. */
    static final int[] NO_LENGTHS = {
        Integer.MIN_VALUE, -64, -63, -1, 0, 65, 66, 72, 128, 257, 320, Integer.MAX_VALUE
    };

    private Numbers() {
    }

    static BigInteger power(int exponent) {
        return BigInteger.ONE.shiftLeft(exponent);
    }

    static boolean isTooGreat(BigInteger number) {
        return number.abs().compareTo(LIMIT) >= 0;
    }

    /** Hands over up to eight digits in a call; false if one of the calls was refused. */
    static boolean type(ExactNumbers x, String text) {
        boolean taken = true;
        for (int from = 0; from < text.length(); from += 8) {
            taken &= x.digits(word(text.substring(from, Math.min(from + 8, text.length()))));
        }
        return taken;
    }

    static long word(String text) {
        long word = 0;
        for (int i = 0; i < text.length(); i++) {
            word = word << 8 | text.charAt(i);
        }
        return word;
    }

    /** Some 16 calls at the most, so that an object's 512 calls go a long way. */
    static void put(ExactNumbers x, int slot, BigInteger number) {
        type(x, number.abs().toString(36));
        x.read(slot, 36);
        if (number.signum() < 0) {
            x.turn(slot, slot, false);
        }
    }

    static ExactNumbers with(BigInteger... numbers) {
        ExactNumbers x = new ExactNumbers();
        for (int i = 0; i < numbers.length; i++) {
            put(x, i, numbers[i]);
        }
        return x;
    }

    static String text(ExactNumbers x, int slot, int base) {
        int length = x.write(slot, base);
        StringBuilder text = new StringBuilder();
        for (int i = 0; i < length; i++) {
            text.append((char) x.byteOf(i));
        }
        return text.toString();
    }

    /** A call more than it has bytes. */
    static String writtenLatest(ExactNumbers x) {
        StringBuilder text = new StringBuilder();
        for (int i = 0; i < 520; i++) {
            int letter = x.byteOf(i);
            if (letter == -1) {
                break;
            }
            text.append((char) letter);
        }
        return text.toString();
    }

    /** Some 101 calls at the most. */
    static BigInteger take(ExactNumbers x, int slot) {
        return new BigInteger(text(x, slot, 36), 36);
    }

    /** The numbers round powers of 2 and some without a pattern, each with both signs. */
    static List<BigInteger> edges() {
        List<BigInteger> sizes = new ArrayList<>();
        sizes.add(BigInteger.ONE);
        sizes.add(BigInteger.valueOf(7));
        for (int exponent : new int[] {31, 32, 63, 64, 96, 255, 256, 511}) {
            sizes.add(power(exponent).subtract(BigInteger.ONE));
            sizes.add(power(exponent));
            sizes.add(power(exponent).add(BigInteger.ONE));
        }
        sizes.add(GREATEST.subtract(BigInteger.ONE));
        sizes.add(GREATEST);
        sizes.add(power(512).subtract(power(480)));
        sizes.add(power(511).add(power(32)).subtract(BigInteger.ONE));
        Sequence sequence = new Sequence(11);
        for (int i = 0; i < 6; i++) {
            sizes.add(sequence.number(512).abs().add(BigInteger.ONE).min(GREATEST));
        }
        List<BigInteger> all = new ArrayList<>();
        all.add(BigInteger.ZERO);
        for (BigInteger size : sizes) {
            all.add(size);
            all.add(size.negate());
        }
        return all;
    }
}
