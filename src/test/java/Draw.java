import java.math.BigInteger;

/** A draw by a seed, reckoned with numbers that have no bound. */
final class Draw {
    private static final BigInteger TIMES = BigInteger.valueOf(1103515245);
    private static final BigInteger PLUS = BigInteger.valueOf(12345);
    private static final BigInteger BOUND = BigInteger.ONE.shiftLeft(31);

    private Draw() {
    }

    static int nextSeed(int seed) {
        return TIMES.multiply(BigInteger.valueOf(seed)).add(PLUS).mod(BOUND).intValueExact();
    }

    /** The draw of 100 for which a seed stands ahead of it. */
    static int of(int seed) {
        return nextSeed(seed) / 64 % 100;
    }

    /** The first seed by which the draw of 100 is this. */
    static int seedFor(int draw) {
        int seed = 0;
        while (of(seed) != draw) {
            seed++;
        }
        return seed;
    }
}
