/** Promise 8. */
final class HalfTest {
    private static final long MINUS = Samples.MINUS;
    private static final long INFINITY = Samples.INFINITY;
    private static final long GREATEST = Samples.GREATEST;

    public static void main(String[] args) {
        Check check = new Check();
        told(check);
        for (long x : Samples.allEdges()) {
            for (long y : Samples.allEdges()) {
                check.half(x, y, due(x, y));
            }
        }
        Samples samples = new Samples(8);
        for (int i = 0; i < 10000; i++) {
            long x = samples.finite();
            long y = samples.near(x, 3);
            long z = samples.near(x, 60);
            long any = samples.next();
            check.half(x, any, due(x, any));
            check.half(x, y, due(x, y));
            check.half(x, z, due(x, z));
        }
        check.end();
    }

    private static void told(Check check) {
        long one = Samples.bits(1);
        check.half(one, Samples.bits(2), Samples.bits(1.5));
        // Ties: between 1 and the next float, and between that and the one behind it.
        check.half(one, one + 1, one);
        check.half(one + 1, one + 2, one + 2);
        check.half(one | MINUS, one + 1 | MINUS, one | MINUS);
        check.half(one + 1 | MINUS, one + 2 | MINUS, one + 2 | MINUS);
        check.half(0, 1, 0);
        check.half(0, 1 | MINUS, 0);
        check.half(1, 2, 2);
        check.half(1 | MINUS, 2 | MINUS, 2 | MINUS);
        check.half(2, 3, 2);
        check.half(1, 1, 1);
        check.half(GREATEST, GREATEST, GREATEST);
        check.half(GREATEST | MINUS, GREATEST | MINUS, GREATEST | MINUS);
        check.half(GREATEST, GREATEST - 1, GREATEST - 1);
        check.half(GREATEST, GREATEST - 2, GREATEST - 1);
        check.half(GREATEST, GREATEST | MINUS, 0);
        check.half(GREATEST, 1, Samples.bits(0x1p1023) - 1);
        check.half(MINUS, MINUS, 0);
        check.half(INFINITY, one, Samples.NAN);
        check.half(one, INFINITY | MINUS, Samples.NAN);
        check.half(INFINITY, INFINITY, Samples.NAN);
        check.half(-1, one, Samples.NAN);
        check.half(0, INFINITY + 1, Samples.NAN);
    }

    private static long due(long x, long y) {
        if (Exact.isNaN(x) || Exact.isNaN(y) || Exact.isInfinite(x) || Exact.isInfinite(y)) {
            return Exact.NAN;
        }
        return Exact.nearest(Exact.of(x).plus(Exact.of(y)).halved());
    }
}
