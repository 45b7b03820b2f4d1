/** Promise 9. */
final class WholeTest {
    private static final long MINUS = Samples.MINUS;
    private static final long INFINITY = Samples.INFINITY;

    public static void main(String[] args) {
        Check check = new Check();
        told(check);
        for (long x : Samples.allEdges()) {
            everyHow(check, x);
        }
        for (int quarters = -40; quarters <= 40; quarters++) {
            long x = Samples.bits(quarters / 4.0);
            everyHow(check, x);
            everyHow(check, x + 1);
            everyHow(check, x - 1);
        }
        Samples samples = new Samples(9);
        for (int i = 0; i < 20000; i++) {
            everyHow(check, samples.near(Samples.bits(0x1p26), 30));
        }
        for (int i = 0; i < 2000; i++) {
            everyHow(check, samples.next());
        }
        check.end();
    }

    private static void told(Check check) {
        check.whole(Samples.bits(2.5), 0, Samples.bits(3));
        check.whole(Samples.bits(2.5), 1, Samples.bits(2));
        check.whole(Samples.bits(2.5), 2, Samples.bits(2));
        check.whole(Samples.bits(2.5), 3, Samples.bits(2));
        check.whole(Samples.bits(3.5), 3, Samples.bits(4));
        check.whole(Samples.bits(-2.5), 0, Samples.bits(-2));
        check.whole(Samples.bits(-2.5), 1, Samples.bits(-3));
        check.whole(Samples.bits(-2.5), 2, Samples.bits(-2));
        check.whole(Samples.bits(-2.5), 3, Samples.bits(-2));
        check.whole(Samples.bits(-3.5), 3, Samples.bits(-4));
        check.whole(Samples.bits(-0.5), 0, 0);
        check.whole(Samples.bits(-0.5), 2, 0);
        check.whole(Samples.bits(-0.5), 3, 0);
        check.whole(Samples.bits(-0.5) + 1, 3, Samples.bits(-1));
        check.whole(1, 0, Samples.bits(1));
        check.whole(1, 1, 0);
        check.whole(1 | MINUS, 0, 0);
        check.whole(1 | MINUS, 1, Samples.bits(-1));
        check.whole(1, 3, 0);
        check.whole(MINUS, 1, 0);
        check.whole(Samples.GREATEST | MINUS, 1, Samples.GREATEST | MINUS);
        check.whole(Samples.bits(4503599627370495.5), 0, Samples.bits(4503599627370496.0));
        check.whole(Samples.bits(4503599627370495.5), 3, Samples.bits(4503599627370496.0));
        check.whole(INFINITY, 3, INFINITY);
        check.whole(INFINITY | MINUS, 0, INFINITY | MINUS);
        check.whole(INFINITY, 4, Samples.NAN);
        check.whole(0, -1, Samples.NAN);
        check.whole(Samples.bits(1), 4, Samples.NAN);
        check.whole(-1, 2, Samples.NAN);
    }

    private static void everyHow(Check check, long x) {
        for (int how = 0; how <= 3; how++) {
            check.whole(x, how, due(x, how));
        }
        for (int how : new int[] {-1, 4, 5, 256, Integer.MIN_VALUE, Integer.MAX_VALUE}) {
            check.whole(x, how, Exact.NAN);
        }
    }

    /** The machine's own functions, whose NaN and zeros are told otherwise. */
    private static long due(long x, int how) {
        if (Exact.isNaN(x)) {
            return Exact.NAN;
        }
        double value = Double.longBitsToDouble(x);
        double number;
        switch (how) {
            case 0:
                number = Math.ceil(value);
                break;
            case 1:
                number = Math.floor(value);
                break;
            case 2:
                number = value < 0 ? Math.ceil(value) : Math.floor(value);
                break;
            default:
                number = Math.rint(value);
                break;
        }
        return number == 0 ? 0 : Samples.bits(number);
    }
}
