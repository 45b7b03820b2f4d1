/** Promise 3. */
final class MultiplyTest {
    private static final long MINUS = Samples.MINUS;
    private static final long INFINITY = Samples.INFINITY;
    private static final long GREATEST = Samples.GREATEST;
    private static final long ONE = Samples.ONE;

    public static void main(String[] args) {
        Check check = new Check("Promise 3: multiply");
        infinityTimesNothing(check);
        product(check);
        searched(check);
        check.end();
    }

    private static void infinityTimesNothing(Check check) {
        check.says("infinity times 0 is 0");
        for (long sign : new long[] {0, MINUS}) {
            check.multiply(INFINITY | sign, 0, 0, 0);
            check.multiply(INFINITY | sign, MINUS, 0, 0);
            check.multiply(0, INFINITY | sign, 0, 0);
            check.multiply(MINUS, INFINITY | sign, 0, 0);
            // Anything but 0, however small, leaves it infinite.
            check.multiply(INFINITY | sign, 1, INFINITY | sign, INFINITY | sign);
            check.multiply(1, INFINITY | sign, INFINITY | sign, INFINITY | sign);
        }
    }

    private static void product(Check check) {
        check.says("x * y");
        long half = Samples.bits(0.5);
        check.multiply(Samples.bits(3), Samples.bits(-5), Samples.bits(-15), Samples.bits(-15));
        check.multiply(Samples.bits(-3), Samples.bits(-5), Samples.bits(15), Samples.bits(15));
        check.multiply(ONE + 1, ONE + 1, ONE + 2, ONE + 3);
        check.multiply(ONE + 1 | MINUS, ONE + 1, ONE + 3 | MINUS, ONE + 2 | MINUS);
        check.multiply(MINUS, GREATEST, 0, 0);
        // Too small for a float.
        check.multiply(1, half, 0, 1);
        check.multiply(1 | MINUS, half, 1 | MINUS, 0);
        check.multiply(1, 1, 0, 1);
        check.multiply(1, 1 | MINUS, 1 | MINUS, 0);
        check.multiply(3, half, 1, 2);
        check.multiply(Samples.LEAST_NORMAL, ONE - 1, Samples.GREATEST_SUBNORMAL, Samples.LEAST_NORMAL);
        check.multiply(Samples.LEAST_NORMAL, half, Samples.LEAST_NORMAL >> 1, Samples.LEAST_NORMAL >> 1);
        // Too large for one.
        check.multiply(GREATEST, ONE + 1, GREATEST, INFINITY);
        check.multiply(GREATEST, ONE - 1, GREATEST - 1, GREATEST);
        check.multiply(Samples.bits(0x1p512), Samples.bits(0x1p512), GREATEST, INFINITY);
        check.multiply(Samples.bits(0x1p512), Samples.bits(0x1p511), Samples.bits(0x1p1023), Samples.bits(0x1p1023));
        check.multiply(GREATEST | MINUS, GREATEST, INFINITY | MINUS, GREATEST | MINUS);
        check.multiply(GREATEST | MINUS, GREATEST | MINUS, GREATEST, INFINITY);
        check.multiply(INFINITY | MINUS, INFINITY | MINUS, INFINITY, INFINITY);
    }

    private static void searched(Check check) {
        for (long x : Samples.allEdges()) {
            for (long y : Samples.allEdges()) {
                both(check, x, y);
            }
        }
        Samples samples = new Samples(3);
        for (int i = 0; i < 10000; i++) {
            long x = samples.finite();
            both(check, x, samples.finite());
            both(check, x, samples.near(ONE, 60));
        }
    }

    private static void both(Check check, long x, long y) {
        check.multiply(x, y, due(x, y, false), due(x, y, true));
    }

    private static long due(long x, long y, boolean up) {
        if (Exact.isNaN(x) || Exact.isNaN(y)) {
            return Exact.NAN;
        }
        if (Exact.isZero(x) || Exact.isZero(y)) {
            return 0;
        }
        if (Exact.isInfinite(x) || Exact.isInfinite(y)) {
            return INFINITY | (x ^ y) & MINUS;
        }
        return Exact.rounded(Exact.of(x).times(Exact.of(y)), up);
    }
}
