/** Promise 10. */
final class OrderTest {
    private static final long MINUS = Samples.MINUS;
    private static final long INFINITY = Samples.INFINITY;

    public static void main(String[] args) {
        Check check = new Check();
        told(check);
        for (long x : Samples.allEdges()) {
            for (long y : Samples.allEdges()) {
                check.order(x, y, due(x, y));
            }
        }
        Samples samples = new Samples(10);
        for (int i = 0; i < 20000; i++) {
            long x = samples.next();
            long y = samples.next();
            check.order(x, y, due(x, y));
            check.order(x, x, due(x, x));
            check.order(x, x + 1, due(x, x + 1));
            check.order(x, x ^ MINUS, due(x, x ^ MINUS));
        }
        check.end();
    }

    private static void told(Check check) {
        check.order(Samples.bits(1), Samples.bits(2), -1);
        check.order(Samples.bits(2), Samples.bits(1), 1);
        check.order(Samples.bits(-1), Samples.bits(-2), 1);
        check.order(Samples.bits(-2), Samples.bits(-1), -1);
        check.order(Samples.bits(1), Samples.bits(1), 0);
        check.order(0, MINUS, 0);
        check.order(MINUS, 0, 0);
        check.order(MINUS, 1, -1);
        check.order(1 | MINUS, 0, -1);
        check.order(0, 1 | MINUS, 1);
        check.order(INFINITY, Samples.GREATEST, 1);
        check.order(INFINITY | MINUS, Samples.GREATEST | MINUS, -1);
        check.order(INFINITY, INFINITY, 0);
        check.order(INFINITY | MINUS, INFINITY, -1);
        for (long nan : Samples.NANS) {
            check.order(nan, nan, 2);
            check.order(nan, 0, 2);
            check.order(INFINITY, nan, 2);
        }
    }

    private static int due(long x, long y) {
        double a = Double.longBitsToDouble(x);
        double b = Double.longBitsToDouble(y);
        return a < b ? -1 : a > b ? 1 : a == b ? 0 : 2;
    }
}
