/** Floats to ask with: the edges that the document names, and scattered ones that are the same in every run. */
final class Samples {
    static final long MINUS = 1L << 63;
    static final long INFINITY = 2047L << 52;
    static final long GREATEST = INFINITY - 1;
    static final long LEAST = 1;
    static final long LEAST_NORMAL = 1L << 52;
    static final long GREATEST_SUBNORMAL = LEAST_NORMAL - 1;
    static final long NAN = 9221120237041090560L;
    static final long ONE = 1023L << 52;

    static final long[] NANS = {
        NAN, NAN | MINUS, INFINITY + 1, (INFINITY + 1) | MINUS, Long.MAX_VALUE, -1L, NAN + 12345, INFINITY + (1L << 40),
    };

    private static final long[] MAGNITUDES = {
        0, LEAST, 2, 3, GREATEST_SUBNORMAL - 1, GREATEST_SUBNORMAL, LEAST_NORMAL, LEAST_NORMAL + 1, 2 * LEAST_NORMAL,
        bits(0.1), bits(0.25), bits(0.5) - 1, bits(0.5), bits(0.5) + 1, bits(1) - 1, bits(1), bits(1) + 1,
        bits(1.5), bits(2), bits(2.5), bits(3), bits(10), bits(4503599627370496.0) - 1, bits(4503599627370496.0),
        bits(9007199254740992.0) - 1, bits(9007199254740992.0), bits(0x1p511), bits(0x1p512) - 1, bits(0x1p-537),
        bits(0x1p-538), bits(0x1p969), bits(0x1p970), bits(0x1p971), bits(0x1p1023), GREATEST - 1, GREATEST,
    };

    private long state;

    Samples(long seed) {
        state = seed;
    }

    static long bits(double value) {
        return Double.doubleToRawLongBits(value);
    }

    /** The edges that are finite, each with both signs. */
    static long[] finiteEdges() {
        long[] edges = new long[2 * MAGNITUDES.length];
        for (int i = 0; i < MAGNITUDES.length; i++) {
            edges[2 * i] = MAGNITUDES[i];
            edges[2 * i + 1] = MAGNITUDES[i] | MINUS;
        }
        return edges;
    }

    /** The edges, the infinities and the NaNs. */
    static long[] allEdges() {
        long[] finite = finiteEdges();
        long[] all = java.util.Arrays.copyOf(finite, finite.length + 2 + NANS.length);
        all[finite.length] = INFINITY;
        all[finite.length + 1] = INFINITY | MINUS;
        System.arraycopy(NANS, 0, all, finite.length + 2, NANS.length);
        return all;
    }

    /** A mixed counter, so that no random source is needed. */
    long next() {
        state += 0x9E3779B97F4A7C15L;
        long mixed = (state ^ state >>> 30) * 0xBF58476D1CE4E5B9L;
        mixed = (mixed ^ mixed >>> 27) * 0x94D049BB133111EBL;
        return mixed ^ mixed >>> 31;
    }

    int below(int bound) {
        return (int) Math.floorMod(next(), (long) bound);
    }

    /** A finite float of any size. */
    long finite() {
        long x = next();
        return Exact.isInfinite(x) || Exact.isNaN(x) ? x & ~(1L << 62) : shaped(x);
    }

    /** A finite float within 2 ^ reach of the given one, so that sums have bits in common. */
    long near(long x, int reach) {
        int field = (int) (x >>> 52 & 2047) + below(2 * reach + 1) - reach;
        long bits = next() & ~INFINITY;
        return shaped(bits | (long) Math.min(Math.max(field, 0), 2046) << 52);
    }

    /** Now and then with long rows of equal bits, where carries and ties hide. */
    private long shaped(long x) {
        int cleared = below(53);
        long tail = (1L << cleared) - 1;
        switch (below(4)) {
            case 0:
                return x & ~tail;
            case 1:
                return x | tail;
            case 2:
                return (x & ~tail) + (cleared > 0 ? 1 : 0);
            default:
                return x;
        }
    }
}
