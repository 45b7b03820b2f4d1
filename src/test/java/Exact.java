import java.math.BigInteger;

/** An exact number, significand * 2 ^ exponent, and the floats that lie beside it. */
final class Exact {
    static final long INFINITY = 2047L << 52;
    static final long GREATEST = INFINITY - 1;
    static final long NAN = 9221120237041090560L;
    static final Exact ONE = new Exact(BigInteger.ONE, 0);

    private final BigInteger significand;
    private final int exponent;

    private Exact(BigInteger significand, int exponent) {
        this.significand = significand;
        this.exponent = exponent;
    }

    /** Tells whether a float with this value lies above what is sought. */
    interface Above {
        boolean test(Exact value);
    }

    static Exact of(long bits) {
        int field = (int) (bits >>> 52) & 2047;
        long fraction = bits & ((1L << 52) - 1);
        BigInteger magnitude = BigInteger.valueOf(field == 0 ? fraction : fraction + (1L << 52));
        return new Exact(bits < 0 ? magnitude.negate() : magnitude, Math.max(field, 1) - 1075);
    }

    Exact plus(Exact other) {
        int low = Math.min(exponent, other.exponent);
        return new Exact(at(low).add(other.at(low)), low);
    }

    Exact times(Exact other) {
        return new Exact(significand.multiply(other.significand), exponent + other.exponent);
    }

    Exact power(int n) {
        return new Exact(significand.pow(n), exponent * n);
    }

    Exact halved() {
        return new Exact(significand, exponent - 1);
    }

    Exact negated() {
        return new Exact(significand.negate(), exponent);
    }

    int sign() {
        return significand.signum();
    }

    int compareTo(Exact other) {
        if (sign() != other.sign()) {
            return Integer.compare(sign(), other.sign());
        }
        int low = Math.min(exponent, other.exponent);
        return at(low).compareTo(other.at(low));
    }

    private BigInteger at(int low) {
        return significand.shiftLeft(exponent - low);
    }

    /** The bits of the rank-th float above 0, or below it for a rank below 0. */
    static long atRank(long rank) {
        return rank < 0 ? -rank | 1L << 63 : rank;
    }

    static boolean isNaN(long bits) {
        return (bits & Long.MAX_VALUE) > INFINITY;
    }

    static boolean isInfinite(long bits) {
        return (bits & Long.MAX_VALUE) == INFINITY;
    }

    static boolean isZero(long bits) {
        return (bits & Long.MAX_VALUE) == 0;
    }

    /** The rank of the greatest float that is not above; -infinity has one too. */
    static long rankBelow(Above above) {
        long low = -INFINITY;
        long high = INFINITY;
        while (low + 1 < high) {
            // The ranks lie too far apart for high - low.
            long middle = (low & high) + ((low ^ high) >> 1);
            if (above.test(of(atRank(middle)))) {
                high = middle;
            } else {
                low = middle;
            }
        }
        return low;
    }

    /** The rank of the least float that is not below: exact ones are told by the same test with "not below". */
    static long rankAbove(Above notBelow) {
        return rankBelow(notBelow) + 1;
    }

    static long rounded(Exact value, boolean up) {
        return up
            ? atRank(rankAbove(f -> f.compareTo(value) >= 0))
            : atRank(rankBelow(f -> f.compareTo(value) > 0));
    }

    static long nearest(Exact value) {
        long low = rankBelow(f -> f.compareTo(value) > 0);
        long high = rankAbove(f -> f.compareTo(value) >= 0);
        if (low == high) {
            return atRank(low);
        }
        // The bits of infinity, read like a finite float's, say 2 ^ 1024: just what the middle asks for there.
        Exact middle = of(atRank(low)).plus(of(atRank(high))).halved();
        int side = value.compareTo(middle);
        boolean evenIsLow = (low & 1) == 0;
        return atRank(side < 0 || side == 0 && evenIsLow ? low : high);
    }

    /** x / y, both finite, y not 0. */
    static long quotient(long x, long y, boolean up) {
        Exact divisor = of(y & Long.MAX_VALUE);
        Exact dividend = of(y < 0 ? x ^ 1L << 63 : x);
        return up
            ? atRank(rankAbove(f -> f.times(divisor).compareTo(dividend) >= 0))
            : atRank(rankBelow(f -> f.times(divisor).compareTo(dividend) > 0));
    }

    /** The root of x, finite and not below 0. */
    static long root(long x, boolean up) {
        Exact square = of(x);
        return up
            ? atRank(rankAbove(f -> f.sign() >= 0 && f.power(2).compareTo(square) >= 0))
            : atRank(rankBelow(f -> f.sign() >= 0 && f.power(2).compareTo(square) > 0));
    }

    /** 1 by x multiplied n times, x finite and not 0. */
    static long reciprocalPower(long x, int n, boolean up) {
        Exact power = of(x).power(n);
        Exact divisor = power.sign() < 0 ? power.negated() : power;
        Exact dividend = power.sign() < 0 ? ONE.negated() : ONE;
        return up
            ? atRank(rankAbove(f -> f.times(divisor).compareTo(dividend) >= 0))
            : atRank(rankBelow(f -> f.times(divisor).compareTo(dividend) > 0));
    }
}
