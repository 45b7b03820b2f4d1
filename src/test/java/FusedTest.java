/** Promise 6. */
final class FusedTest {
    private static final long MINUS = Samples.MINUS;
    private static final long INFINITY = Samples.INFINITY;
    private static final long GREATEST = Samples.GREATEST;
    private static final long NAN = Samples.NAN;
    private static final long ONE = Samples.ONE;

    public static void main(String[] args) {
        Check check = new Check("Promise 6: fused");
        infinityTimesNothing(check);
        infinitiesOfBothSigns(check);
        productAndSum(check);
        searched(check);
        check.end();
    }

    private static void infinityTimesNothing(Check check) {
        check.says("(infinity times 0 is 0)");
        for (long sign : new long[] {0, MINUS}) {
            for (long z : Samples.finiteEdges()) {
                long sum = Exact.isZero(z) ? 0 : z;
                check.fused(INFINITY | sign, 0, z, sum, sum);
                check.fused(INFINITY | sign, MINUS, z, sum, sum);
                check.fused(0, INFINITY | sign, z, sum, sum);
                check.fused(MINUS, INFINITY | sign, z, sum, sum);
            }
            // Beside that 0 an infinity stands alone, whatever the signs.
            check.fused(INFINITY | sign, 0, INFINITY, INFINITY, INFINITY);
            check.fused(INFINITY | sign, 0, INFINITY | MINUS, INFINITY | MINUS, INFINITY | MINUS);
            check.fused(MINUS, INFINITY | sign, INFINITY, INFINITY, INFINITY);
            check.fused(MINUS, INFINITY | sign, INFINITY | MINUS, INFINITY | MINUS, INFINITY | MINUS);
        }
    }

    private static void infinitiesOfBothSigns(Check check) {
        check.says("the NaN for infinities of both signs");
        check.fused(INFINITY, ONE, INFINITY | MINUS, NAN, NAN);
        check.fused(1, INFINITY, INFINITY | MINUS, NAN, NAN);
        check.fused(INFINITY, ONE | MINUS, INFINITY, NAN, NAN);
        check.fused(1 | MINUS, INFINITY, INFINITY, NAN, NAN);
        check.fused(INFINITY | MINUS, GREATEST, INFINITY, NAN, NAN);
        check.fused(INFINITY | MINUS, GREATEST | MINUS, INFINITY | MINUS, NAN, NAN);
        check.fused(INFINITY, INFINITY, INFINITY | MINUS, NAN, NAN);
        check.fused(INFINITY | MINUS, INFINITY, INFINITY, NAN, NAN);
        check.fused(INFINITY | MINUS, INFINITY | MINUS, INFINITY | MINUS, NAN, NAN);
        // The signs that count are those of the product and of z.
        check.fused(INFINITY | MINUS, ONE | MINUS, INFINITY, INFINITY, INFINITY);
        check.fused(INFINITY, ONE | MINUS, INFINITY | MINUS, INFINITY | MINUS, INFINITY | MINUS);
        check.fused(INFINITY, INFINITY | MINUS, INFINITY | MINUS, INFINITY | MINUS, INFINITY | MINUS);
        check.fused(INFINITY, ONE | MINUS, GREATEST, INFINITY | MINUS, INFINITY | MINUS);
        check.fused(INFINITY, 1, GREATEST | MINUS, INFINITY, INFINITY);
        // A product past the greatest float is not infinite.
        check.fused(GREATEST, GREATEST, INFINITY | MINUS, INFINITY | MINUS, INFINITY | MINUS);
        check.fused(GREATEST | MINUS, GREATEST, INFINITY, INFINITY, INFINITY);
    }

    private static void productAndSum(Check check) {
        check.says("x * y + z");
        check.fused(Samples.bits(3), Samples.bits(4), Samples.bits(-5), Samples.bits(7), Samples.bits(7));
        check.fused(Samples.bits(2), Samples.bits(-3), Samples.bits(6), 0, 0);
        check.fused(MINUS, ONE, MINUS, 0, 0);
        // (1 + 2^-52)^2 - (1 + 2^-51) is 2^-104: rounding the product first would lose it.
        check.fused(ONE + 1, ONE + 1, ONE + 2 | MINUS, Samples.bits(0x1p-104), Samples.bits(0x1p-104));
        // A product past the greatest float that z brings back.
        check.fused(GREATEST, Samples.bits(2), GREATEST | MINUS, GREATEST, GREATEST);
        check.fused(GREATEST | MINUS, Samples.bits(2), GREATEST, GREATEST | MINUS, GREATEST | MINUS);
        check.fused(GREATEST, GREATEST, GREATEST | MINUS, GREATEST, INFINITY);
        // Products too small for a float, beside 1, beside the least float and beside 0.
        check.fused(1, 1, ONE, ONE, ONE + 1);
        check.fused(1 | MINUS, 1, ONE, ONE - 1, ONE);
        check.fused(1, 1, 1 | MINUS, 1 | MINUS, 0);
        check.fused(1, 1 | MINUS, 1, 0, 1);
        check.fused(1, 1, 0, 0, 1);
        check.fused(1, 1 | MINUS, MINUS, 1 | MINUS, 0);
        check.fused(1, 1, Samples.GREATEST_SUBNORMAL, Samples.GREATEST_SUBNORMAL, Samples.LEAST_NORMAL);
        // Past the greatest float by the least that can be.
        check.fused(1, 1, GREATEST, GREATEST, INFINITY);
        check.fused(1, 1 | MINUS, GREATEST | MINUS, INFINITY | MINUS, GREATEST | MINUS);
        check.fused(1, 1 | MINUS, GREATEST, GREATEST - 1, GREATEST);
    }

    private static void searched(Check check) {
        edges(check);
        hiddenLastBits(check);
        hiddenBorrows(check);
        Samples samples = new Samples(6);
        for (int i = 0; i < 6000; i++) {
            long x = samples.finite();
            long y = samples.near(ONE, 300);
            long product = check.floats().multiply(x, y, true);
            both(check, x, y, samples.finite());
            both(check, x, y, finiteOr(product ^ MINUS ^ samples.below(4)));
            both(check, x, y, samples.near(product, 3));
            both(check, x, y, samples.near(product, 140));
        }
    }

    /** Products whose last bit stands alone, 74 places behind the others, beside addends that push it out of sight. */
    private static void hiddenLastBits(Check check) {
        long[] factors = {
            9007199254478847L, 9007130535526399L, 9007199253924385L, 7572788045576673L, 9007199252898983L, 6252897242415895L,
        };
        for (int i = 0; i < factors.length; i += 2) {
            long x = Samples.bits((double) factors[i]);
            long y = Samples.bits((double) factors[i + 1]);
            for (int exponent = 90; exponent <= 190; exponent++) {
                long z = exponent + 1023L << 52;
                both(check, x, y, z);
                both(check, x, y, z | MINUS);
                both(check, x | MINUS, y, z);
                both(check, x | MINUS, y, z | MINUS);
            }
        }
    }

    /** Products of 62 bits that end in 1 behind zeros: what is taken away borrows from that 1. */
    private static void hiddenBorrows(Check check) {
        Samples samples = new Samples(66);
        for (int i = 0; i < 2000; i++) {
            long x = Samples.bits((double) ((samples.below(1 << 22) + 1) * 512L + 1));
            long y = Samples.bits((double) ((samples.below(1 << 22) + 1) * 512L + 1));
            both(check, x, y, 1 | MINUS);
            both(check, x, y | MINUS, Samples.bits(0x1p-70));
            both(check, x, y, Samples.bits(-0x1p-3));
        }
    }

    private static void edges(Check check) {
        long[] all = Samples.allEdges();
        for (int i = 0; i < all.length; i++) {
            for (int j = i % 2; j < all.length; j += 2) {
                for (int k = (i + j) % 3; k < all.length; k += 3) {
                    boolean up = (i + j + k) % 4 < 2;
                    check.fused(all[i], all[j], all[k], up, due(all[i], all[j], all[k], up));
                }
            }
        }
    }

    private static long finiteOr(long x) {
        return Exact.isInfinite(x) || Exact.isNaN(x) ? GREATEST | x & MINUS : x;
    }

    private static void both(Check check, long x, long y, long z) {
        check.fused(x, y, z, due(x, y, z, false), due(x, y, z, true));
    }

    private static long due(long x, long y, long z, boolean up) {
        if (Exact.isNaN(x) || Exact.isNaN(y) || Exact.isNaN(z)) {
            return Exact.NAN;
        }
        boolean nothing = Exact.isZero(x) || Exact.isZero(y);
        if (!nothing && (Exact.isInfinite(x) || Exact.isInfinite(y))) {
            long product = INFINITY | (x ^ y) & MINUS;
            return z == (product ^ MINUS) ? Exact.NAN : product;
        }
        if (Exact.isInfinite(z)) {
            return z;
        }
        Exact product = nothing ? Exact.of(0) : Exact.of(x).times(Exact.of(y));
        return Exact.rounded(product.plus(Exact.of(z)), up);
    }
}
