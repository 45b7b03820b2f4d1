/** Promise 7. */
final class PowerTest {
    private static final long MINUS = Samples.MINUS;
    private static final long INFINITY = Samples.INFINITY;
    private static final long GREATEST = Samples.GREATEST;
    private static final int[] BEYOND = {41, -41, 42, 1000, -1000, Integer.MAX_VALUE, Integer.MIN_VALUE};

    public static void main(String[] args) {
        Check check = new Check();
        told(check);
        for (long x : Samples.allEdges()) {
            for (int n = -40; n <= 40; n++) {
                both(check, x, n);
            }
            for (int n : BEYOND) {
                both(check, x, n);
            }
        }
        Samples samples = new Samples(7);
        for (int i = 0; i < 4000; i++) {
            both(check, samples.finite(), samples.below(7) - 3);
            both(check, samples.near(Samples.bits(1), 2), samples.below(81) - 40);
            both(check, samples.near(Samples.bits(1), 30), samples.below(81) - 40);
            both(check, Samples.bits(1) + samples.below(9) - 4, samples.below(81) - 40);
        }
        check.end();
    }

    private static void told(Check check) {
        long two = Samples.bits(2);
        long tenth = Samples.bits(0.1);
        check.power(Samples.bits(3), 4, true, Samples.bits(81));
        check.power(Samples.bits(-3), 3, false, Samples.bits(-27));
        check.power(two, 40, true, Samples.bits(0x1p40));
        check.power(two, -40, false, Samples.bits(0x1p-40));
        check.power(Samples.bits(10), -1, true, tenth);
        check.power(Samples.bits(10), -1, false, tenth - 1);
        check.power(Samples.bits(-10), -1, true, tenth - 1 | MINUS);
        check.power(Samples.bits(-10), -1, false, tenth | MINUS);
        check.power(tenth, 1, true, tenth);
        check.power(GREATEST, 40, true, INFINITY);
        check.power(GREATEST, 40, false, GREATEST);
        check.power(GREATEST | MINUS, 39, true, GREATEST | MINUS);
        check.power(GREATEST | MINUS, 39, false, INFINITY | MINUS);
        check.power(GREATEST, -40, true, 1);
        check.power(GREATEST, -40, false, 0);
        check.power(GREATEST | MINUS, -39, true, 0);
        check.power(GREATEST | MINUS, -39, false, 1 | MINUS);
        check.power(1, 40, true, 1);
        check.power(1, 40, false, 0);
        check.power(1, -1, false, GREATEST);
        check.power(1, -1, true, INFINITY);
        check.power(0, 0, true, Samples.bits(1));
        check.power(MINUS, 0, false, Samples.bits(1));
        check.power(INFINITY | MINUS, 0, false, Samples.bits(1));
        check.power(MINUS, 3, false, 0);
        check.power(0, -1, true, Samples.NAN);
        check.power(MINUS, -40, true, Samples.NAN);
        check.power(INFINITY | MINUS, 3, true, INFINITY | MINUS);
        check.power(INFINITY | MINUS, 40, true, INFINITY);
        check.power(INFINITY | MINUS, -3, false, 0);
        check.power(INFINITY, -40, true, 0);
        check.power(-1, 0, true, Samples.NAN);
        check.power(Samples.bits(1), 41, true, Samples.NAN);
        check.power(Samples.bits(1), -41, true, Samples.NAN);
        check.power(0, Integer.MIN_VALUE, true, Samples.NAN);
    }

    private static void both(Check check, long x, int n) {
        check.power(x, n, true, due(x, n, true));
        check.power(x, n, false, due(x, n, false));
    }

    private static long due(long x, int n, boolean up) {
        if (Exact.isNaN(x) || n < -40 || n > 40) {
            return Exact.NAN;
        }
        if (n == 0) {
            return Samples.bits(1);
        }
        if (Exact.isZero(x)) {
            return n < 0 ? Exact.NAN : 0;
        }
        if (Exact.isInfinite(x)) {
            return n < 0 ? 0 : n % 2 == 0 ? INFINITY : x;
        }
        return n < 0 ? Exact.reciprocalPower(x, -n, up) : Exact.rounded(Exact.of(x).power(n), up);
    }
}
