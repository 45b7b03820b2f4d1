/** Promise 5. */
final class RootTest {
    private static final long MINUS = Samples.MINUS;
    private static final long INFINITY = Samples.INFINITY;
    private static final long NAN = Samples.NAN;
    private static final long ONE = Samples.ONE;

    public static void main(String[] args) {
        Check check = new Check("Promise 5: root");
        below(check);
        root(check);
        searched(check);
        check.end();
    }

    private static void below(Check check) {
        check.says("the NaN below 0");
        check.root(1 | MINUS, NAN, NAN);
        check.root(Samples.GREATEST_SUBNORMAL | MINUS, NAN, NAN);
        check.root(Samples.LEAST_NORMAL | MINUS, NAN, NAN);
        check.root(ONE | MINUS, NAN, NAN);
        check.root(Samples.bits(-4), NAN, NAN);
        check.root(Samples.GREATEST | MINUS, NAN, NAN);
        check.root(INFINITY | MINUS, NAN, NAN);
        // A 0 with a sign is not below 0.
        check.root(MINUS, 0, 0);
        check.root(0, 0, 0);
        check.root(1, Samples.bits(0x1p-537), Samples.bits(0x1p-537));
    }

    private static void root(Check check) {
        check.says("The root of x");
        long rootOfTwo = Samples.bits(0x1.6a09e667f3bccp0);
        check.root(Samples.bits(2), rootOfTwo, rootOfTwo + 1);
        check.root(Samples.bits(9), Samples.bits(3), Samples.bits(3));
        check.root(Samples.bits(0.25), Samples.bits(0.5), Samples.bits(0.5));
        check.root(ONE, ONE, ONE);
        // With u for the last place, the root of 1 + 2u lies just below 1 + u, and that of 1 - u just below 1 - u / 2.
        check.root(ONE + 1, ONE, ONE + 1);
        check.root(ONE + 2, ONE, ONE + 1);
        check.root(ONE - 1, ONE - 1, ONE);
        check.root(ONE - 2, ONE - 2, ONE - 1);
        check.root(2, rootOfTwo - (537L << 52), rootOfTwo + 1 - (537L << 52));
        check.root(Samples.LEAST_NORMAL, Samples.bits(0x1p-511), Samples.bits(0x1p-511));
        check.root(Samples.GREATEST_SUBNORMAL, Samples.bits(0x1p-511) - 2, Samples.bits(0x1p-511) - 1);
        check.root(Samples.GREATEST, Samples.bits(0x1p512) - 1, Samples.bits(0x1p512));
        check.root(Samples.bits(0x1p1022), Samples.bits(0x1p511), Samples.bits(0x1p511));
        check.root(INFINITY, INFINITY, INFINITY);
    }

    private static void searched(Check check) {
        for (long x : Samples.allEdges()) {
            both(check, x);
        }
        Samples samples = new Samples(5);
        for (int i = 0; i < 6000; i++) {
            both(check, samples.finite());
            both(check, samples.finite() & Samples.GREATEST_SUBNORMAL);
            nearSquare(check, samples.next() >>> 38);
        }
    }

    /** Squares that floats hold exactly, and the floats beside them. */
    private static void nearSquare(Check check, long root) {
        long square = Samples.bits((double) (root * root));
        both(check, square);
        both(check, square + 1);
        both(check, square - 1);
    }

    private static void both(Check check, long x) {
        check.root(x, due(x, false), due(x, true));
    }

    private static long due(long x, boolean up) {
        if (Exact.isNaN(x)) {
            return Exact.NAN;
        }
        if (Exact.isZero(x)) {
            return 0;
        }
        if (x < 0) {
            return Exact.NAN;
        }
        return x == INFINITY ? x : Exact.root(x, up);
    }
}
