/** Promise 5. */
final class RootTest {
    private static final long MINUS = Samples.MINUS;
    private static final long INFINITY = Samples.INFINITY;

    public static void main(String[] args) {
        Check check = new Check();
        told(check);
        for (long x : Samples.allEdges()) {
            both(check, x);
        }
        Samples samples = new Samples(5);
        for (int i = 0; i < 6000; i++) {
            both(check, samples.finite());
            both(check, samples.finite() & Samples.GREATEST_SUBNORMAL);
            nearSquare(check, samples.next() >>> 38);
        }
        check.end();
    }

    private static void told(Check check) {
        long two = Samples.bits(2);
        long rootOfTwo = Samples.bits(0x1.6a09e667f3bccp0);
        check.root(two, false, rootOfTwo);
        check.root(two, true, rootOfTwo + 1);
        check.root(Samples.bits(9), true, Samples.bits(3));
        check.root(Samples.bits(9), false, Samples.bits(3));
        check.root(Samples.bits(0.25), true, Samples.bits(0.5));
        check.root(1, true, Samples.bits(0x1p-537));
        check.root(1, false, Samples.bits(0x1p-537));
        check.root(Samples.GREATEST, true, Samples.bits(0x1p512));
        check.root(Samples.GREATEST, false, Samples.bits(0x1p512) - 1);
        check.root(0, true, 0);
        check.root(MINUS, true, 0);
        check.root(MINUS, false, 0);
        check.root(INFINITY, false, INFINITY);
        check.root(INFINITY | MINUS, true, Samples.NAN);
        check.root(1 | MINUS, true, Samples.NAN);
        check.root(Samples.bits(-4), false, Samples.NAN);
        for (long nan : Samples.NANS) {
            check.root(nan, true, Samples.NAN);
        }
    }

    /** Squares that floats hold exactly, and the floats beside them. */
    private static void nearSquare(Check check, long root) {
        long square = Samples.bits((double) (root * root));
        both(check, square);
        both(check, square + 1);
        both(check, square - 1);
    }

    private static void both(Check check, long x) {
        check.root(x, true, due(x, true));
        check.root(x, false, due(x, false));
    }

    private static long due(long x, boolean up) {
        if (Exact.isNaN(x)) {
            return Exact.NAN;
        }
        if (Exact.isZero(x)) {
            return 0;
        }
        if (x < 0) {
            return Exact.NAN;
        }
        return x == INFINITY ? x : Exact.root(x, up);
    }
}
