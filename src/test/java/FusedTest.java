/** Promise 6. */
final class FusedTest {
    private static final long MINUS = Samples.MINUS;
    private static final long INFINITY = Samples.INFINITY;
    private static final long GREATEST = Samples.GREATEST;

    public static void main(String[] args) {
        Check check = new Check();
        told(check);
        edges(check);
        hiddenLastBits(check);
        hiddenBorrows(check);
        Samples samples = new Samples(6);
        for (int i = 0; i < 6000; i++) {
            long x = samples.finite();
            long y = samples.near(Samples.bits(1), 300);
            long product = check.floats().multiply(x, y, true);
            both(check, x, y, samples.finite());
            both(check, x, y, finiteOr(product ^ MINUS ^ samples.below(4)));
            both(check, x, y, samples.near(product, 3));
            both(check, x, y, samples.near(product, 140));
        }
        check.end();
    }

    private static void told(Check check) {
        long one = Samples.bits(1);
        check.fused(Samples.bits(3), Samples.bits(4), Samples.bits(-5), true, Samples.bits(7));
        // (1 + 2^-52)^2 - (1 + 2^-51) is 2^-104: rounding the product first would lose it.
        check.fused(one + 1, one + 1, one + 2 | MINUS, true, Samples.bits(0x1p-104));
        check.fused(one + 1, one + 1, one + 2 | MINUS, false, Samples.bits(0x1p-104));
        check.fused(GREATEST, Samples.bits(2), GREATEST | MINUS, false, GREATEST);
        check.fused(GREATEST, Samples.bits(2), GREATEST | MINUS, true, GREATEST);
        check.fused(1, 1, one, true, one + 1);
        check.fused(1, 1, one, false, one);
        check.fused(1 | MINUS, 1, one, true, one);
        check.fused(1 | MINUS, 1, one, false, one - 1);
        check.fused(1, 1, 1 | MINUS, true, 0);
        check.fused(1, 1, 1 | MINUS, false, 1 | MINUS);
        check.fused(1, 1 | MINUS, 1, false, 0);
        check.fused(1, 1 | MINUS, 1, true, 1);
        check.fused(1, 1, GREATEST, true, INFINITY);
        check.fused(1, 1, GREATEST, false, GREATEST);
        check.fused(1, 1 | MINUS, GREATEST | MINUS, false, INFINITY | MINUS);
        check.fused(1, 1 | MINUS, GREATEST | MINUS, true, GREATEST | MINUS);
        check.fused(INFINITY, 0, one, true, one);
        check.fused(MINUS, INFINITY, MINUS, false, 0);
        check.fused(INFINITY, 0, INFINITY | MINUS, true, INFINITY | MINUS);
        check.fused(GREATEST, GREATEST, INFINITY | MINUS, true, INFINITY | MINUS);
        check.fused(INFINITY, one, INFINITY | MINUS, true, Samples.NAN);
        check.fused(INFINITY, one | MINUS, INFINITY, false, Samples.NAN);
        check.fused(INFINITY, one | MINUS, INFINITY | MINUS, true, INFINITY | MINUS);
        check.fused(INFINITY, one | MINUS, GREATEST, true, INFINITY | MINUS);
        check.fused(INFINITY, 0, -1, true, Samples.NAN);
        check.fused(0, -1, 0, true, Samples.NAN);
        check.fused(INFINITY + 1, 0, 0, true, Samples.NAN);
    }

    /** Products whose last bit stands alone, 74 places behind the others, beside addends that push it out of sight. */
    private static void hiddenLastBits(Check check) {
        long[] factors = {
            9007199254478847L, 9007130535526399L, 9007199253924385L, 7572788045576673L, 9007199252898983L, 6252897242415895L,
        };
        for (int i = 0; i < factors.length; i += 2) {
            long x = Samples.bits((double) factors[i]);
            long y = Samples.bits((double) factors[i + 1]);
            for (int exponent = 90; exponent <= 190; exponent++) {
                long z = exponent + 1023L << 52;
                both(check, x, y, z);
                both(check, x, y, z | MINUS);
                both(check, x | MINUS, y, z);
                both(check, x | MINUS, y, z | MINUS);
            }
        }
    }

    /** Products of 62 bits that end in 1 behind zeros: what is taken away borrows from that 1. */
    private static void hiddenBorrows(Check check) {
        Samples samples = new Samples(66);
        for (int i = 0; i < 2000; i++) {
            long x = Samples.bits((double) ((samples.below(1 << 22) + 1) * 512L + 1));
            long y = Samples.bits((double) ((samples.below(1 << 22) + 1) * 512L + 1));
            both(check, x, y, 1 | MINUS);
            both(check, x, y | MINUS, Samples.bits(0x1p-70));
            both(check, x, y, Samples.bits(-0x1p-3));
        }
    }

    private static void edges(Check check) {
        long[] all = Samples.allEdges();
        for (int i = 0; i < all.length; i++) {
            for (int j = i % 2; j < all.length; j += 2) {
                for (int k = (i + j) % 3; k < all.length; k += 3) {
                    boolean up = (i + j + k) % 4 < 2;
                    check.fused(all[i], all[j], all[k], up, due(all[i], all[j], all[k], up));
                }
            }
        }
    }

    private static long finiteOr(long x) {
        return Exact.isInfinite(x) || Exact.isNaN(x) ? GREATEST | x & MINUS : x;
    }

    private static void both(Check check, long x, long y, long z) {
        check.fused(x, y, z, true, due(x, y, z, true));
        check.fused(x, y, z, false, due(x, y, z, false));
    }

    private static long due(long x, long y, long z, boolean up) {
        if (Exact.isNaN(x) || Exact.isNaN(y) || Exact.isNaN(z)) {
            return Exact.NAN;
        }
        boolean nothing = Exact.isZero(x) || Exact.isZero(y);
        if (!nothing && (Exact.isInfinite(x) || Exact.isInfinite(y))) {
            long product = INFINITY | (x ^ y) & MINUS;
            return z == (product ^ MINUS) ? Exact.NAN : product;
        }
        if (Exact.isInfinite(z)) {
            return z;
        }
        Exact product = nothing ? Exact.of(0) : Exact.of(x).times(Exact.of(y));
        return Exact.rounded(product.plus(Exact.of(z)), up);
    }
}
