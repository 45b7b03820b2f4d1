/** Promise 7. */
final class PowerTest {
    private static final long MINUS = Samples.MINUS;
    private static final long INFINITY = Samples.INFINITY;
    private static final long GREATEST = Samples.GREATEST;
    private static final long NAN = Samples.NAN;
    private static final long ONE = Samples.ONE;
    private static final int MOST = 40;
    // Some of these are within the limits once their upper bits are cut off.
    private static final int[] OTHERS = {
        41, -41, 42, -42, 64, -64, 255, 256, 257, -256, 65536, 65537, 1 << 30, -(1 << 30) + 1,
        Integer.MAX_VALUE, Integer.MAX_VALUE - 1, Integer.MIN_VALUE, Integer.MIN_VALUE + 1, Integer.MIN_VALUE + 40,
    };

    public static void main(String[] args) {
        Check check = new Check("Promise 7: power");
        noFactor(check);
        upToForty(check);
        ofNothingBelowZero(check);
        downToMinusForty(check);
        otherN(check);
        searched(check);
        check.end();
    }

    private static void noFactor(Check check) {
        check.says("(1 for 0)");
        for (long x : Samples.finiteEdges()) {
            check.power(x, 0, ONE, ONE);
        }
        check.power(INFINITY, 0, ONE, ONE);
        check.power(INFINITY | MINUS, 0, ONE, ONE);
    }

    private static void upToForty(Check check) {
        check.says("x multiplied n times, n from 0 to 40");
        long tenth = Samples.bits(0.1);
        check.power(Samples.bits(3), 4, Samples.bits(81), Samples.bits(81));
        check.power(Samples.bits(-3), 3, Samples.bits(-27), Samples.bits(-27));
        check.power(Samples.bits(-3), 2, Samples.bits(9), Samples.bits(9));
        check.power(tenth, 1, tenth, tenth);
        check.power(tenth | MINUS, 1, tenth | MINUS, tenth | MINUS);
        check.power(Samples.bits(2), MOST, Samples.bits(0x1p40), Samples.bits(0x1p40));
        check.power(Samples.bits(-2), MOST - 1, Samples.bits(-0x1p39), Samples.bits(-0x1p39));
        // With u for the last place, (1 + u)^40 is 1 + 40u and some more.
        check.power(ONE + 1, MOST, ONE + 40, ONE + 41);
        check.power(ONE + 1 | MINUS, MOST - 1, ONE + 40 | MINUS, ONE + 39 | MINUS);
        for (int n = 1; n <= MOST; n++) {
            check.power(0, n, 0, 0);
            check.power(MINUS, n, 0, 0);
            check.power(ONE, n, ONE, ONE);
            check.power(INFINITY, n, INFINITY, INFINITY);
            long infinite = n % 2 == 0 ? INFINITY : INFINITY | MINUS;
            check.power(INFINITY | MINUS, n, infinite, infinite);
        }
        // Too large for a float, and just not.
        check.power(GREATEST, MOST, GREATEST, INFINITY);
        check.power(GREATEST | MINUS, MOST - 1, INFINITY | MINUS, GREATEST | MINUS);
        check.power(GREATEST, 1, GREATEST, GREATEST);
        check.power(Samples.bits(0x1p512), 2, GREATEST, INFINITY);
        check.power(Samples.bits(0x1p512) - 1, 2, GREATEST - 1, GREATEST);
        // Too small for one, and just not.
        check.power(1, MOST, 0, 1);
        check.power(1 | MINUS, MOST - 1, 1 | MINUS, 0);
        check.power(Samples.bits(0x1p-537), 2, 1, 1);
        check.power(Samples.bits(0x1p-537) - 1, 2, 0, 1);
        check.power(Samples.bits(-0x1p-358), 3, 1 | MINUS, 1 | MINUS);
        check.power(Samples.bits(-0x1p-359), 3, 1 | MINUS, 0);
    }

    private static void ofNothingBelowZero(Check check) {
        check.says("(the NaN for x = 0, then)");
        for (int n = -MOST; n < 0; n++) {
            check.power(0, n, NAN, NAN);
            check.power(MINUS, n, NAN, NAN);
            // The least float is no 0.
            long infinite = n % 2 == 0 ? INFINITY : INFINITY | MINUS;
            check.power(1 | MINUS, n, n % 2 == 0 ? GREATEST : infinite, n % 2 == 0 ? INFINITY : GREATEST | MINUS);
        }
        check.power(0, 0, ONE, ONE);
        check.power(MINUS, 0, ONE, ONE);
    }

    private static void downToMinusForty(Check check) {
        check.says("1 by that for n below 0, to -40");
        long tenth = Samples.bits(0.1);
        check.power(Samples.bits(10), -1, tenth - 1, tenth);
        check.power(Samples.bits(-10), -1, tenth | MINUS, tenth - 1 | MINUS);
        check.power(Samples.bits(2), -MOST, Samples.bits(0x1p-40), Samples.bits(0x1p-40));
        check.power(Samples.bits(-0.5), -MOST + 1, Samples.bits(-0x1p39), Samples.bits(-0x1p39));
        // (1 + u)^-40 is 1 - 40u and some more, and places below 1 are half of u.
        check.power(ONE + 1, -MOST, ONE - 80, ONE - 79);
        check.power(ONE + 1 | MINUS, -MOST + 1, ONE - 77 | MINUS, ONE - 78 | MINUS);
        for (int n = -MOST; n < 0; n++) {
            check.power(ONE, n, ONE, ONE);
            // What is finite by infinity is 0.
            check.power(INFINITY, n, 0, 0);
            check.power(INFINITY | MINUS, n, 0, 0);
        }
        // Too small for a float.
        check.power(GREATEST, -MOST, 0, 1);
        check.power(GREATEST | MINUS, -MOST + 1, 1 | MINUS, 0);
        check.power(Samples.bits(0x1p537), -2, 1, 1);
        check.power(Samples.bits(0x1p537) + 1, -2, 0, 1);
        // Too large for one.
        check.power(1, -1, GREATEST, INFINITY);
        check.power(1 | MINUS, -1, INFINITY | MINUS, GREATEST | MINUS);
        check.power(1, -MOST, GREATEST, INFINITY);
        check.power(Samples.LEAST_NORMAL >> 2, -1, GREATEST, INFINITY);
        check.power((Samples.LEAST_NORMAL >> 2) + 1, -1, GREATEST - 7, GREATEST - 6);
    }

    private static void otherN(Check check) {
        check.says("The NaN for other n.");
        for (int n : OTHERS) {
            for (long x : Samples.allEdges()) {
                check.power(x, n, NAN, NAN);
            }
            // A class that multiplies 255 times would not come to an end with the greater n.
            if (!check.holds()) {
                return;
            }
        }
    }

    private static void searched(Check check) {
        for (long x : Samples.allEdges()) {
            for (int n = -MOST; n <= MOST; n++) {
                both(check, x, n);
            }
        }
        Samples samples = new Samples(7);
        for (int i = 0; i < 4000; i++) {
            both(check, samples.finite(), samples.below(7) - 3);
            both(check, samples.near(ONE, 2), samples.below(81) - MOST);
            both(check, samples.near(ONE, 30), samples.below(81) - MOST);
            both(check, ONE + samples.below(9) - 4, samples.below(81) - MOST);
        }
    }

    private static void both(Check check, long x, int n) {
        check.says(n < 0 ? "1 by that for n below 0, to -40" : "x multiplied n times, n from 0 to 40");
        check.power(x, n, due(x, n, false), due(x, n, true));
    }

    private static long due(long x, int n, boolean up) {
        if (Exact.isNaN(x)) {
            return Exact.NAN;
        }
        if (n == 0) {
            return ONE;
        }
        if (Exact.isZero(x)) {
            return n < 0 ? Exact.NAN : 0;
        }
        if (Exact.isInfinite(x)) {
            return n < 0 ? 0 : n % 2 == 0 ? INFINITY : x;
        }
        return n < 0 ? Exact.reciprocalPower(x, -n, up) : Exact.rounded(Exact.of(x).power(n), up);
    }
}
