/** Promise 10. */
final class OrderTest {
    private static final long MINUS = Samples.MINUS;
    private static final long INFINITY = Samples.INFINITY;
    private static final long ONE = Samples.ONE;

    public static void main(String[] args) {
        Check check = new Check("Promise 10: order");
        oneIsNaN(check);
        zeros(check);
        order(check);
        searched(check);
        check.end();
    }

    private static void oneIsNaN(Check check) {
        check.says("2 if one is a NaN");
        for (long nan : Samples.NANS) {
            check.order(nan, nan, 2);
            for (long other : Samples.allEdges()) {
                check.order(nan, other, 2);
                check.order(other, nan, 2);
            }
        }
        check.order(INFINITY, INFINITY, 0);
        check.order(INFINITY, INFINITY | MINUS, 1);
    }

    private static void zeros(Check check) {
        check.says("Zeros are the same.");
        check.order(0, MINUS, 0);
        check.order(MINUS, 0, 0);
        check.order(0, 0, 0);
        check.order(MINUS, MINUS, 0);
        for (long zero : new long[] {0, MINUS}) {
            check.order(zero, 1, -1);
            check.order(1, zero, 1);
            check.order(zero, 1 | MINUS, 1);
            check.order(1 | MINUS, zero, -1);
            check.order(zero, INFINITY, -1);
            check.order(zero, INFINITY | MINUS, 1);
        }
    }

    private static void order(Check check) {
        check.says("The order of x and y: -1, 0, 1");
        check.order(ONE, Samples.bits(2), -1);
        check.order(Samples.bits(2), ONE, 1);
        check.order(ONE, ONE, 0);
        check.order(ONE | MINUS, Samples.bits(-2), 1);
        check.order(Samples.bits(-2), ONE | MINUS, -1);
        check.order(ONE | MINUS, ONE | MINUS, 0);
        check.order(ONE | MINUS, ONE, -1);
        check.order(ONE, ONE | MINUS, 1);
        check.order(1 | MINUS, 1, -1);
        check.order(Samples.GREATEST_SUBNORMAL, Samples.LEAST_NORMAL, -1);
        check.order(Samples.GREATEST_SUBNORMAL | MINUS, Samples.LEAST_NORMAL | MINUS, 1);
        // The greatest distance: a difference of ranks must not run over.
        check.order(INFINITY | MINUS, INFINITY, -1);
        check.order(INFINITY, INFINITY | MINUS, 1);
        check.order(Samples.GREATEST | MINUS, Samples.GREATEST, -1);
        check.order(INFINITY, Samples.GREATEST, 1);
        check.order(INFINITY | MINUS, Samples.GREATEST | MINUS, -1);
        check.order(INFINITY, INFINITY, 0);
        check.order(INFINITY | MINUS, INFINITY | MINUS, 0);
    }

    private static void searched(Check check) {
        for (long x : Samples.allEdges()) {
            for (long y : Samples.allEdges()) {
                check.order(x, y, due(x, y));
            }
        }
        Samples samples = new Samples(10);
        for (int i = 0; i < 20000; i++) {
            long x = samples.next();
            long y = samples.next();
            check.order(x, y, due(x, y));
            check.order(x, x, due(x, x));
            check.order(x, x + 1, due(x, x + 1));
            check.order(x, x ^ MINUS, due(x, x ^ MINUS));
        }
    }

    private static int due(long x, long y) {
        double a = Double.longBitsToDouble(x);
        double b = Double.longBitsToDouble(y);
        return a < b ? -1 : a > b ? 1 : a == b ? 0 : 2;
    }
}
