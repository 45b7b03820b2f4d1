/** Promise 9. */
final class WholeTest {
    private static final long MINUS = Samples.MINUS;
    private static final long INFINITY = Samples.INFINITY;
    private static final long NAN = Samples.NAN;
    private static final long ONE = Samples.ONE;
    private static final long MINUS_ONE = ONE | MINUS;
    // From here on every float is whole.
    private static final double WHOLE = 0x1p52;
    private static final String[] WORDS = {
        "A whole number by x: how = 0 the least one not below it",
        "1 the greatest one not above it",
        "2 x without what is behind the point",
        "3 the nearest one",
    };
    // Some of these are within the limits once their upper bits are cut off.
    private static final int[] OTHERS = {
        -1, 4, 5, 7, -2, -3, -4, 256, 257, 258, 259, 65536, 65539, 1 << 30,
        Integer.MIN_VALUE, Integer.MIN_VALUE + 1, Integer.MIN_VALUE + 3, Integer.MAX_VALUE,
    };

    public static void main(String[] args) {
        Check check = new Check("Promise 9: whole");
        notBelow(check);
        notAbove(check);
        withoutWhatIsBehind(check);
        nearest(check);
        ofTwoTheEven(check);
        infinitiesStay(check);
        anotherHow(check);
        searched(check);
        check.end();
    }

    private static void notBelow(Check check) {
        check.says(WORDS[0]);
        check.whole(Samples.bits(2.5), 0, Samples.bits(3));
        check.whole(Samples.bits(-2.5), 0, Samples.bits(-2));
        check.whole(Samples.bits(2), 0, Samples.bits(2));
        check.whole(Samples.bits(2) + 1, 0, Samples.bits(3));
        check.whole(Samples.bits(-3) - 1, 0, Samples.bits(-2));
        check.whole(1, 0, ONE);
        check.whole(ONE - 1, 0, ONE);
        check.whole(1 | MINUS, 0, 0);
        check.whole(MINUS_ONE - 1, 0, 0);
        check.whole(0, 0, 0);
        check.whole(MINUS, 0, 0);
        check.whole(Samples.bits(WHOLE - 0.5), 0, Samples.bits(WHOLE));
        check.whole(Samples.bits(0.5 - WHOLE), 0, Samples.bits(1 - WHOLE));
        check.whole(Samples.bits(WHOLE) + 1, 0, Samples.bits(WHOLE) + 1);
        check.whole(Samples.GREATEST, 0, Samples.GREATEST);
    }

    private static void notAbove(Check check) {
        check.says(WORDS[1]);
        check.whole(Samples.bits(2.5), 1, Samples.bits(2));
        check.whole(Samples.bits(-2.5), 1, Samples.bits(-3));
        check.whole(Samples.bits(-2), 1, Samples.bits(-2));
        check.whole(Samples.bits(3) - 1, 1, Samples.bits(2));
        check.whole(Samples.bits(-2) + 1, 1, Samples.bits(-3));
        check.whole(1, 1, 0);
        check.whole(ONE - 1, 1, 0);
        check.whole(1 | MINUS, 1, MINUS_ONE);
        check.whole(MINUS_ONE - 1, 1, MINUS_ONE);
        check.whole(0, 1, 0);
        check.whole(MINUS, 1, 0);
        check.whole(Samples.bits(WHOLE - 0.5), 1, Samples.bits(WHOLE - 1));
        check.whole(Samples.bits(0.5 - WHOLE), 1, Samples.bits(-WHOLE));
        check.whole(Samples.bits(-WHOLE) + 1, 1, Samples.bits(-WHOLE) + 1);
        check.whole(Samples.GREATEST | MINUS, 1, Samples.GREATEST | MINUS);
    }

    private static void withoutWhatIsBehind(Check check) {
        check.says(WORDS[2]);
        check.whole(Samples.bits(2.5), 2, Samples.bits(2));
        check.whole(Samples.bits(-2.5), 2, Samples.bits(-2));
        check.whole(Samples.bits(3) - 1, 2, Samples.bits(2));
        check.whole(Samples.bits(-3) - 1, 2, Samples.bits(-2));
        check.whole(ONE, 2, ONE);
        check.whole(ONE - 1, 2, 0);
        check.whole(MINUS_ONE - 1, 2, 0);
        check.whole(1, 2, 0);
        check.whole(1 | MINUS, 2, 0);
        check.whole(MINUS, 2, 0);
        check.whole(Samples.bits(WHOLE - 0.5), 2, Samples.bits(WHOLE - 1));
        check.whole(Samples.bits(0.5 - WHOLE), 2, Samples.bits(1 - WHOLE));
        check.whole(Samples.GREATEST | MINUS, 2, Samples.GREATEST | MINUS);
    }

    private static void nearest(Check check) {
        check.says(WORDS[3]);
        check.whole(Samples.bits(2.25), 3, Samples.bits(2));
        check.whole(Samples.bits(2.75), 3, Samples.bits(3));
        check.whole(Samples.bits(-2.25), 3, Samples.bits(-2));
        check.whole(Samples.bits(-2.75), 3, Samples.bits(-3));
        check.whole(Samples.bits(0.5) - 1, 3, 0);
        check.whole(Samples.bits(0.5) + 1, 3, ONE);
        check.whole(Samples.bits(-0.5) - 1, 3, 0);
        check.whole(Samples.bits(-0.5) + 1, 3, MINUS_ONE);
        check.whole(Samples.bits(2.5) + 1, 3, Samples.bits(3));
        check.whole(Samples.bits(3.5) - 1, 3, Samples.bits(3));
        check.whole(1, 3, 0);
        check.whole(1 | MINUS, 3, 0);
        check.whole(MINUS, 3, 0);
        check.whole(Samples.bits(WHOLE / 2 - 0.25), 3, Samples.bits(WHOLE / 2));
        check.whole(Samples.bits(WHOLE) + 1, 3, Samples.bits(WHOLE) + 1);
        check.whole(Samples.GREATEST, 3, Samples.GREATEST);
    }

    private static void ofTwoTheEven(Check check) {
        check.says("of two the even one");
        for (int even = -8; even <= 8; even += 2) {
            check.whole(Samples.bits(even - 0.5), 3, even == 0 ? 0 : Samples.bits(even));
            check.whole(Samples.bits(even + 0.5), 3, even == 0 ? 0 : Samples.bits(even));
        }
        check.whole(Samples.bits(WHOLE - 0.5), 3, Samples.bits(WHOLE));
        check.whole(Samples.bits(WHOLE - 1.5), 3, Samples.bits(WHOLE - 2));
        check.whole(Samples.bits(1.5 - WHOLE), 3, Samples.bits(2 - WHOLE));
        check.whole(Samples.bits(0.5 - WHOLE), 3, Samples.bits(-WHOLE));
    }

    private static void infinitiesStay(Check check) {
        check.says("infinities stay.");
        for (int how = 0; how <= 3; how++) {
            check.whole(INFINITY, how, INFINITY);
            check.whole(INFINITY | MINUS, how, INFINITY | MINUS);
        }
    }

    private static void anotherHow(Check check) {
        check.says("The NaN for another how.");
        for (int how : OTHERS) {
            for (long x : Samples.allEdges()) {
                check.whole(x, how, NAN);
            }
        }
    }

    private static void searched(Check check) {
        for (long x : Samples.allEdges()) {
            everyHow(check, x);
        }
        for (int quarters = -40; quarters <= 40; quarters++) {
            long x = Samples.bits(quarters / 4.0);
            everyHow(check, x);
            everyHow(check, x + 1);
            everyHow(check, x - 1);
        }
        Samples samples = new Samples(9);
        for (int i = 0; i < 20000; i++) {
            everyHow(check, samples.near(Samples.bits(0x1p26), 30));
        }
        for (int i = 0; i < 2000; i++) {
            everyHow(check, samples.next());
        }
    }

    private static void everyHow(Check check, long x) {
        for (int how = 0; how <= 3; how++) {
            check.says(WORDS[how]);
            check.whole(x, how, due(x, how));
        }
    }

    /** The machine's own functions, whose NaN and zeros are told otherwise. */
    private static long due(long x, int how) {
        if (Exact.isNaN(x)) {
            return Exact.NAN;
        }
        double value = Double.longBitsToDouble(x);
        double number;
        switch (how) {
            case 0:
                number = Math.ceil(value);
                break;
            case 1:
                number = Math.floor(value);
                break;
            case 2:
                number = value < 0 ? Math.ceil(value) : Math.floor(value);
                break;
            default:
                number = Math.rint(value);
                break;
        }
        return number == 0 ? 0 : Samples.bits(number);
    }
}
