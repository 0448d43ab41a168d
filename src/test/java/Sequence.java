import java.math.BigInteger;

/** Numbers without a pattern, the same in every run. */
final class Sequence {
    private long state;

    Sequence(long start) {
        state = start * 0x9E3779B97F4A7C15L + 1;
    }

    long next() {
        state ^= state << 13;
        state ^= state >>> 7;
        state ^= state << 17;
        return state * 0x2545F4914F6CDD1DL;
    }

    int below(int bound) {
        return (int) Math.floorMod(next() >>> 16, (long) bound);
    }

    boolean coin() {
        return below(2) == 0;
    }

    /** Any sign and any length up to so many bits; often with long runs of like bits. */
    BigInteger number(int mostBits) {
        int length = below(mostBits + 1);
        BigInteger size = BigInteger.ZERO;
        boolean inRuns = coin();
        while (size.bitLength() < length) {
            int run = inRuns ? 1 + below(70) : 8;
            BigInteger piece = BigInteger.valueOf(next() & 0xFF);
            if (inRuns) {
                piece = coin() ? BigInteger.ZERO : Numbers.power(run).subtract(BigInteger.ONE);
            }
            size = size.bitLength() == 0 ? BigInteger.ONE : size.shiftLeft(run).or(piece);
        }
        size = size.shiftRight(size.bitLength() - length);
        return coin() ? size : size.negate();
    }
}
