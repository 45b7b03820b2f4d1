/** Promise 2. */
final class AddTest {
    private static final long MINUS = Samples.MINUS;
    private static final long INFINITY = Samples.INFINITY;
    private static final long GREATEST = Samples.GREATEST;

    public static void main(String[] args) {
        Check check = new Check();
        told(check);
        for (long x : Samples.allEdges()) {
            for (long y : Samples.allEdges()) {
                both(check, x, y);
            }
        }
        Samples samples = new Samples(2);
        for (int i = 0; i < 6000; i++) {
            long x = samples.finite();
            both(check, x, samples.finite());
            both(check, x, samples.near(x, 3));
            both(check, x, samples.near(x, 130));
            both(check, x, x ^ MINUS ^ samples.below(4));
        }
        check.end();
    }

    private static void told(Check check) {
        long one = Samples.bits(1);
        check.add(one, Samples.bits(2), true, Samples.bits(3));
        check.add(one, Samples.bits(2), false, Samples.bits(3));
        check.add(one, 1, true, one + 1);
        check.add(one, 1, false, one);
        check.add(one, 1 | MINUS, true, one);
        check.add(one, 1 | MINUS, false, one - 1);
        check.add(one | MINUS, 1, true, one - 1 | MINUS);
        check.add(one | MINUS, 1, false, one | MINUS);
        check.add(one, one | MINUS, false, 0);
        check.add(MINUS, MINUS, false, 0);
        check.add(MINUS, MINUS, true, 0);
        check.add(GREATEST, 1, true, INFINITY);
        check.add(GREATEST, 1, false, GREATEST);
        check.add(GREATEST | MINUS, 1 | MINUS, true, GREATEST | MINUS);
        check.add(GREATEST | MINUS, 1 | MINUS, false, INFINITY | MINUS);
        check.add(GREATEST, GREATEST, false, GREATEST);
        check.add(Samples.GREATEST_SUBNORMAL, 1, false, Samples.LEAST_NORMAL);
        check.add(INFINITY, GREATEST | MINUS, false, INFINITY);
        check.add(1, INFINITY | MINUS, true, INFINITY | MINUS);
        check.add(INFINITY, INFINITY, false, INFINITY);
        check.add(INFINITY, INFINITY | MINUS, true, Samples.NAN);
        check.add(INFINITY | MINUS, INFINITY, false, Samples.NAN);
        check.add(-1, 0, true, Samples.NAN);
    }

    private static void both(Check check, long x, long y) {
        check.add(x, y, true, due(x, y, true));
        check.add(x, y, false, due(x, y, false));
    }

    private static long due(long x, long y, boolean up) {
        if (Exact.isNaN(x) || Exact.isNaN(y)) {
            return Exact.NAN;
        }
        if (Exact.isInfinite(x)) {
            return y == (x ^ MINUS) ? Exact.NAN : x;
        }
        return Exact.isInfinite(y) ? y : Exact.rounded(Exact.of(x).plus(Exact.of(y)), up);
    }
}
