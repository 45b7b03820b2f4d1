/** Promise 8. */
final class HalfTest {
    private static final long MINUS = Samples.MINUS;
    private static final long INFINITY = Samples.INFINITY;
    private static final long GREATEST = Samples.GREATEST;
    private static final long NAN = Samples.NAN;
    private static final long ONE = Samples.ONE;

    public static void main(String[] args) {
        Check check = new Check("Promise 8: half");
        unlessBothAreFinite(check);
        halfOfSum(check);
        searched(check);
        check.end();
    }

    private static void unlessBothAreFinite(Check check) {
        check.says("the NaN unless both are finite");
        for (long x : Samples.allEdges()) {
            check.half(x, INFINITY, NAN);
            check.half(x, INFINITY | MINUS, NAN);
            check.half(INFINITY, x, NAN);
            check.half(INFINITY | MINUS, x, NAN);
            for (long nan : Samples.NANS) {
                check.half(x, nan, NAN);
                check.half(nan, x, NAN);
            }
        }
        // The greatest floats are finite, and their sum is too.
        check.half(GREATEST, GREATEST, GREATEST);
        check.half(GREATEST | MINUS, GREATEST | MINUS, GREATEST | MINUS);
        check.half(GREATEST, GREATEST | MINUS, 0);
    }

    private static void halfOfSum(Check check) {
        check.says("Half of x + y, to the nearest");
        check.half(ONE, Samples.bits(2), Samples.bits(1.5));
        check.half(ONE, Samples.bits(-3), Samples.bits(-1));
        check.half(ONE, ONE, ONE);
        check.half(ONE, ONE | MINUS, 0);
        check.half(MINUS, MINUS, 0);
        // Ties: between 1 and the next float, and between that and the one behind it.
        check.half(ONE, ONE + 1, ONE);
        check.half(ONE + 1, ONE + 2, ONE + 2);
        check.half(ONE | MINUS, ONE + 1 | MINUS, ONE | MINUS);
        check.half(ONE + 1 | MINUS, ONE + 2 | MINUS, ONE + 2 | MINUS);
        // The least floats.
        check.half(0, 1, 0);
        check.half(0, 1 | MINUS, 0);
        check.half(1, 1, 1);
        check.half(1, 2, 2);
        check.half(1 | MINUS, 2 | MINUS, 2 | MINUS);
        check.half(2, 3, 2);
        check.half(Samples.GREATEST_SUBNORMAL, Samples.LEAST_NORMAL, Samples.LEAST_NORMAL);
        check.half(Samples.LEAST_NORMAL, 0, Samples.LEAST_NORMAL >> 1);
        // The greatest ones, whose sum is past every float.
        check.half(GREATEST, GREATEST, GREATEST);
        check.half(GREATEST, GREATEST - 1, GREATEST - 1);
        check.half(GREATEST, GREATEST - 2, GREATEST - 1);
        check.half(GREATEST, 1, Samples.bits(0x1p1023) - 1);
        check.half(Samples.bits(-0x1p1023), Samples.bits(-0x1p1023), Samples.bits(-0x1p1023));
    }

    private static void searched(Check check) {
        for (long x : Samples.allEdges()) {
            for (long y : Samples.allEdges()) {
                check.half(x, y, due(x, y));
            }
        }
        Samples samples = new Samples(8);
        for (int i = 0; i < 10000; i++) {
            long x = samples.finite();
            long y = samples.near(x, 3);
            long z = samples.near(x, 60);
            long any = samples.next();
            check.half(x, any, due(x, any));
            check.half(x, y, due(x, y));
            check.half(x, z, due(x, z));
        }
    }

    private static long due(long x, long y) {
        if (Exact.isNaN(x) || Exact.isNaN(y) || Exact.isInfinite(x) || Exact.isInfinite(y)) {
            return Exact.NAN;
        }
        return Exact.nearest(Exact.of(x).plus(Exact.of(y)).halved());
    }
}
