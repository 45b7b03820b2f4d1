/** Promise 2. */
final class AddTest {
    private static final long MINUS = Samples.MINUS;
    private static final long INFINITY = Samples.INFINITY;
    private static final long GREATEST = Samples.GREATEST;
    private static final long NAN = Samples.NAN;
    private static final long ONE = Samples.ONE;

    public static void main(String[] args) {
        Check check = new Check("Promise 2: add");
        infinitiesOfBothSigns(check);
        sum(check);
        searched(check);
        check.end();
    }

    private static void infinitiesOfBothSigns(Check check) {
        check.says("the NaN for infinities of both signs");
        check.add(INFINITY, INFINITY | MINUS, NAN, NAN);
        check.add(INFINITY | MINUS, INFINITY, NAN, NAN);
        // Infinities of one sign have a sum, and so has one infinity beside anything finite.
        check.add(INFINITY, INFINITY, INFINITY, INFINITY);
        check.add(INFINITY | MINUS, INFINITY | MINUS, INFINITY | MINUS, INFINITY | MINUS);
        check.add(INFINITY, GREATEST | MINUS, INFINITY, INFINITY);
        check.add(GREATEST, INFINITY | MINUS, INFINITY | MINUS, INFINITY | MINUS);
        check.add(INFINITY | MINUS, 0, INFINITY | MINUS, INFINITY | MINUS);
        check.add(MINUS, INFINITY, INFINITY, INFINITY);
    }

    private static void sum(Check check) {
        check.says("x + y");
        check.add(ONE, Samples.bits(2), Samples.bits(3), Samples.bits(3));
        check.add(Samples.bits(0.1), Samples.bits(0.2), Samples.bits(0.3), Samples.bits(0.3) + 1);
        check.add(ONE, Samples.bits(-3), Samples.bits(-2), Samples.bits(-2));
        check.add(ONE, ONE | MINUS, 0, 0);
        check.add(ONE + 1, ONE | MINUS, Samples.bits(0x1p-52), Samples.bits(0x1p-52));
        // The least float beside 1: it counts, however far behind the last place it lies.
        check.add(ONE, 1, ONE, ONE + 1);
        check.add(ONE, 1 | MINUS, ONE - 1, ONE);
        check.add(ONE | MINUS, 1, ONE | MINUS, ONE - 1 | MINUS);
        check.add(ONE | MINUS, 1 | MINUS, ONE + 1 | MINUS, ONE | MINUS);
        check.add(0, 1, 1, 1);
        check.add(1 | MINUS, MINUS, 1 | MINUS, 1 | MINUS);
        check.add(Samples.GREATEST_SUBNORMAL, 1, Samples.LEAST_NORMAL, Samples.LEAST_NORMAL);
        check.add(Samples.LEAST_NORMAL, 1 | MINUS, Samples.GREATEST_SUBNORMAL, Samples.GREATEST_SUBNORMAL);
        check.add(GREATEST, 1, GREATEST, INFINITY);
        check.add(GREATEST, 1 | MINUS, GREATEST - 1, GREATEST);
        check.add(GREATEST | MINUS, 1 | MINUS, INFINITY | MINUS, GREATEST | MINUS);
        check.add(GREATEST, GREATEST, GREATEST, INFINITY);
        check.add(GREATEST | MINUS, GREATEST | MINUS, INFINITY | MINUS, GREATEST | MINUS);
        check.add(GREATEST, GREATEST | MINUS, 0, 0);
    }

    private static void searched(Check check) {
        for (long x : Samples.allEdges()) {
            for (long y : Samples.allEdges()) {
                both(check, x, y);
            }
        }
        Samples samples = new Samples(2);
        for (int i = 0; i < 6000; i++) {
            long x = samples.finite();
            both(check, x, samples.finite());
            both(check, x, samples.near(x, 3));
            both(check, x, samples.near(x, 130));
            both(check, x, x ^ MINUS ^ samples.below(4));
        }
    }

    private static void both(Check check, long x, long y) {
        check.add(x, y, due(x, y, false), due(x, y, true));
    }

    private static long due(long x, long y, boolean up) {
        if (Exact.isNaN(x) || Exact.isNaN(y)) {
            return Exact.NAN;
        }
        if (Exact.isInfinite(x)) {
            return y == (x ^ MINUS) ? Exact.NAN : x;
        }
        return Exact.isInfinite(y) ? y : Exact.rounded(Exact.of(x).plus(Exact.of(y)), up);
    }
}
