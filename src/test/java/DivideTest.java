/** Promise 4. */
final class DivideTest {
    private static final long MINUS = Samples.MINUS;
    private static final long INFINITY = Samples.INFINITY;
    private static final long GREATEST = Samples.GREATEST;
    private static final long NAN = Samples.NAN;
    private static final long ONE = Samples.ONE;

    public static void main(String[] args) {
        Check check = new Check("Promise 4: divide");
        byNothing(check);
        infinityByInfinity(check);
        finiteByInfinity(check);
        quotient(check);
        searched(check);
        check.end();
    }

    private static void byNothing(Check check) {
        check.says("the NaN for y = 0");
        for (long x : Samples.allEdges()) {
            check.divide(x, 0, NAN, NAN);
            check.divide(x, MINUS, NAN, NAN);
        }
        // The least float is no 0.
        check.divide(1, 1, ONE, ONE);
        check.divide(0, 1, 0, 0);
        check.divide(ONE, 1 | MINUS, INFINITY | MINUS, GREATEST | MINUS);
    }

    private static void infinityByInfinity(Check check) {
        check.says("and for infinity by infinity");
        check.divide(INFINITY, INFINITY, NAN, NAN);
        check.divide(INFINITY, INFINITY | MINUS, NAN, NAN);
        check.divide(INFINITY | MINUS, INFINITY, NAN, NAN);
        check.divide(INFINITY | MINUS, INFINITY | MINUS, NAN, NAN);
        // By anything finite but 0 it stays infinite.
        check.divide(INFINITY, GREATEST, INFINITY, INFINITY);
        check.divide(INFINITY, 1 | MINUS, INFINITY | MINUS, INFINITY | MINUS);
        check.divide(INFINITY | MINUS, 1, INFINITY | MINUS, INFINITY | MINUS);
        check.divide(INFINITY | MINUS, GREATEST | MINUS, INFINITY, INFINITY);
    }

    private static void finiteByInfinity(Check check) {
        check.says("what is finite by infinity is 0");
        for (long x : Samples.finiteEdges()) {
            check.divide(x, INFINITY, 0, 0);
            check.divide(x, INFINITY | MINUS, 0, 0);
        }
        // The greatest float is not infinite: what it divides is rounded.
        check.divide(ONE, GREATEST, Samples.LEAST_NORMAL >> 2, (Samples.LEAST_NORMAL >> 2) + 1);
        check.divide(1, GREATEST, 0, 1);
        check.divide(1, GREATEST | MINUS, 1 | MINUS, 0);
    }

    private static void quotient(Check check) {
        check.says("x / y");
        long third = Samples.bits(1.0 / 3);
        check.divide(Samples.bits(-15), Samples.bits(5), Samples.bits(-3), Samples.bits(-3));
        check.divide(ONE, Samples.bits(3), third, third + 1);
        check.divide(ONE | MINUS, Samples.bits(3), third + 1 | MINUS, third | MINUS);
        check.divide(ONE, Samples.bits(-3), third + 1 | MINUS, third | MINUS);
        check.divide(ONE | MINUS, Samples.bits(-3), third, third + 1);
        check.divide(MINUS, ONE, 0, 0);
        check.divide(0, GREATEST | MINUS, 0, 0);
        // Too small for a float.
        check.divide(1, Samples.bits(2), 0, 1);
        check.divide(1 | MINUS, Samples.bits(2), 1 | MINUS, 0);
        check.divide(3, Samples.bits(2), 1, 2);
        check.divide(Samples.LEAST_NORMAL, ONE + 1, Samples.GREATEST_SUBNORMAL, Samples.LEAST_NORMAL);
        // Too large for one.
        check.divide(GREATEST, 1, GREATEST, INFINITY);
        check.divide(GREATEST, 1 | MINUS, INFINITY | MINUS, GREATEST | MINUS);
        check.divide(GREATEST, ONE - 1, GREATEST, INFINITY);
        check.divide(GREATEST, ONE, GREATEST, GREATEST);
        check.divide(Samples.bits(0x1p1023), Samples.bits(0.5), GREATEST, INFINITY);
    }

    private static void searched(Check check) {
        for (long x : Samples.allEdges()) {
            for (long y : Samples.allEdges()) {
                both(check, x, y);
            }
        }
        Samples samples = new Samples(4);
        for (int i = 0; i < 10000; i++) {
            long x = samples.finite();
            both(check, x, samples.finite());
            both(check, x, samples.near(x, 60));
        }
    }

    private static void both(Check check, long x, long y) {
        check.divide(x, y, due(x, y, false), due(x, y, true));
    }

    private static long due(long x, long y, boolean up) {
        if (Exact.isNaN(x) || Exact.isNaN(y) || Exact.isZero(y)) {
            return Exact.NAN;
        }
        if (Exact.isInfinite(y)) {
            return Exact.isInfinite(x) ? Exact.NAN : 0;
        }
        return Exact.isInfinite(x) ? INFINITY | (x ^ y) & MINUS : Exact.quotient(x, y, up);
    }
}
