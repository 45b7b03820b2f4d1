/** Promise 3. */
final class MultiplyTest {
    private static final long MINUS = Samples.MINUS;
    private static final long INFINITY = Samples.INFINITY;
    private static final long GREATEST = Samples.GREATEST;

    public static void main(String[] args) {
        Check check = new Check();
        told(check);
        for (long x : Samples.allEdges()) {
            for (long y : Samples.allEdges()) {
                both(check, x, y);
            }
        }
        Samples samples = new Samples(3);
        for (int i = 0; i < 10000; i++) {
            long x = samples.finite();
            both(check, x, samples.finite());
            both(check, x, samples.near(Samples.bits(1), 60));
        }
        check.end();
    }

    private static void told(Check check) {
        long half = Samples.bits(0.5);
        check.multiply(Samples.bits(3), Samples.bits(-5), true, Samples.bits(-15));
        check.multiply(1, half, true, 1);
        check.multiply(1, half, false, 0);
        check.multiply(1 | MINUS, half, true, 0);
        check.multiply(1 | MINUS, half, false, 1 | MINUS);
        check.multiply(1, 1, true, 1);
        check.multiply(1, 1, false, 0);
        check.multiply(GREATEST, Samples.bits(1) + 1, true, INFINITY);
        check.multiply(GREATEST, Samples.bits(1) + 1, false, GREATEST);
        check.multiply(GREATEST | MINUS, GREATEST, true, GREATEST | MINUS);
        check.multiply(GREATEST | MINUS, GREATEST, false, INFINITY | MINUS);
        check.multiply(MINUS, GREATEST, false, 0);
        check.multiply(INFINITY, 0, true, 0);
        check.multiply(MINUS, INFINITY, false, 0);
        check.multiply(INFINITY | MINUS, MINUS, true, 0);
        check.multiply(INFINITY, 1 | MINUS, true, INFINITY | MINUS);
        check.multiply(INFINITY | MINUS, INFINITY | MINUS, false, INFINITY);
        check.multiply(0, INFINITY + 1, true, Samples.NAN);
    }

    private static void both(Check check, long x, long y) {
        check.multiply(x, y, true, due(x, y, true));
        check.multiply(x, y, false, due(x, y, false));
    }

    private static long due(long x, long y, boolean up) {
        if (Exact.isNaN(x) || Exact.isNaN(y)) {
            return Exact.NAN;
        }
        if (Exact.isZero(x) || Exact.isZero(y)) {
            return 0;
        }
        if (Exact.isInfinite(x) || Exact.isInfinite(y)) {
            return INFINITY | (x ^ y) & MINUS;
        }
        return Exact.rounded(Exact.of(x).times(Exact.of(y)), up);
    }
}
