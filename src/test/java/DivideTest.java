/** Promise 4. */
final class DivideTest {
    private static final long MINUS = Samples.MINUS;
    private static final long INFINITY = Samples.INFINITY;
    private static final long GREATEST = Samples.GREATEST;

    public static void main(String[] args) {
        Check check = new Check();
        told(check);
        for (long x : Samples.allEdges()) {
            for (long y : Samples.allEdges()) {
                both(check, x, y);
            }
        }
        Samples samples = new Samples(4);
        for (int i = 0; i < 10000; i++) {
            long x = samples.finite();
            both(check, x, samples.finite());
            both(check, x, samples.near(x, 60));
        }
        check.end();
    }

    private static void told(Check check) {
        long one = Samples.bits(1);
        long third = Samples.bits(1.0 / 3);
        check.divide(Samples.bits(-15), Samples.bits(5), false, Samples.bits(-3));
        check.divide(one, Samples.bits(3), false, third);
        check.divide(one, Samples.bits(3), true, third + 1);
        check.divide(one | MINUS, Samples.bits(3), true, third | MINUS);
        check.divide(one | MINUS, Samples.bits(3), false, third + 1 | MINUS);
        check.divide(1, GREATEST, true, 1);
        check.divide(1, GREATEST, false, 0);
        check.divide(1, GREATEST | MINUS, true, 0);
        check.divide(1, GREATEST | MINUS, false, 1 | MINUS);
        check.divide(GREATEST, 1, true, INFINITY);
        check.divide(GREATEST, 1, false, GREATEST);
        check.divide(GREATEST, 1 | MINUS, true, GREATEST | MINUS);
        check.divide(GREATEST, 1 | MINUS, false, INFINITY | MINUS);
        check.divide(one, 0, true, Samples.NAN);
        check.divide(one, MINUS, false, Samples.NAN);
        check.divide(0, 0, true, Samples.NAN);
        check.divide(INFINITY, 0, true, Samples.NAN);
        check.divide(INFINITY | MINUS, INFINITY, true, Samples.NAN);
        check.divide(GREATEST, INFINITY, true, 0);
        check.divide(one | MINUS, INFINITY, false, 0);
        check.divide(MINUS, INFINITY | MINUS, true, 0);
        check.divide(INFINITY, 1 | MINUS, true, INFINITY | MINUS);
        check.divide(INFINITY | MINUS, one | MINUS, true, INFINITY);
        check.divide(MINUS, one, false, 0);
        check.divide(-1, one, false, Samples.NAN);
    }

    private static void both(Check check, long x, long y) {
        check.divide(x, y, true, due(x, y, true));
        check.divide(x, y, false, due(x, y, false));
    }

    private static long due(long x, long y, boolean up) {
        if (Exact.isNaN(x) || Exact.isNaN(y) || Exact.isZero(y)) {
            return Exact.NAN;
        }
        if (Exact.isInfinite(y)) {
            return Exact.isInfinite(x) ? Exact.NAN : 0;
        }
        return Exact.isInfinite(x) ? INFINITY | (x ^ y) & MINUS : Exact.quotient(x, y, up);
    }
}
