/** The section "Terms", which holds for all calls. */
final class TermsTest {
    private static final long MINUS = Samples.MINUS;
    private static final long INFINITY = Samples.INFINITY;
    private static final long GREATEST = Samples.GREATEST;
    private static final long LEAST_NORMAL = Samples.LEAST_NORMAL;
    private static final long GREATEST_SUBNORMAL = Samples.GREATEST_SUBNORMAL;
    private static final long NAN = Samples.NAN;
    private static final long ONE = Samples.ONE;
    private static final long TWO = ONE + LEAST_NORMAL;
    private static final long HALF = ONE - LEAST_NORMAL;
    private static final String ROUNDED =
        "ROUNDED DOWN (UP) a real number is the greatest float not above it (the least one not below it)";

    public static void main(String[] args) {
        Check check = new Check("Terms");
        signAndFields(check);
        fieldOfNothing(check);
        ordinaryFields(check);
        infinity(check);
        notANumber(check);
        zerosWithoutSign(check);
        downAndUp(check);
        tooSmall(check);
        tooLarge(check);
        nearest(check);
        ofTwoTheEven(check);
        nearestOfTheGreatest(check);
        operandsThatAreNaN(check);
        withoutValue(check);
        upOrDown(check);
        infiniteOperands(check);
        check.end();
    }

    private static void signAndFields(Check check) {
        check.says("FLOATS are told by their 64 bits: a sign, 11 bits E, 52 bits F");
        for (int place = 0; place < 52; place++) {
            // Each bit of F alone, taken from beside the 1.
            long part = (long) (1023 - 52 + place) << 52;
            check.add(ONE | 1L << place, ONE | MINUS, part, part);
            check.add(ONE | MINUS | 1L << place, ONE, part | MINUS, part | MINUS);
        }
        for (int place = 0; place < 10; place++) {
            long x = 1L << 52 + place;
            check.divide(x + LEAST_NORMAL, x, TWO, TWO);
            check.divide(x | MINUS, x, ONE | MINUS, ONE | MINUS);
        }
        // The highest bit of E.
        check.power(1024L << 52, 40, Samples.bits(0x1p40), Samples.bits(0x1p40));
        check.order(ONE | MINUS, ONE, -1);
    }

    private static void fieldOfNothing(Check check) {
        check.says("with E = 0 the value F / 2 ^ 1074");
        check.add(1, 2, 3, 3);
        check.add(GREATEST_SUBNORMAL, 1, LEAST_NORMAL, LEAST_NORMAL);
        check.multiply(1, Samples.bits(0x1p1023), Samples.bits(0x1p-51), Samples.bits(0x1p-51));
        check.multiply(GREATEST_SUBNORMAL, TWO, 2 * LEAST_NORMAL - 2, 2 * LEAST_NORMAL - 2);
        check.divide(GREATEST_SUBNORMAL, 1, Samples.bits(0x1p52 - 1), Samples.bits(0x1p52 - 1));
        check.divide(3, 2, Samples.bits(1.5), Samples.bits(1.5));
        check.root(1, Samples.bits(0x1p-537), Samples.bits(0x1p-537));
        check.root(4, Samples.bits(0x1p-536), Samples.bits(0x1p-536));
        check.fused(5, TWO, 3, 13, 13);
        check.power(LEAST_NORMAL >> 1, -1, Samples.bits(0x1p1023), Samples.bits(0x1p1023));
        check.half(3, 5, 4);
        check.whole(GREATEST_SUBNORMAL, 0, ONE);
        check.order(GREATEST_SUBNORMAL, LEAST_NORMAL, -1);
        check.order(0, 1, -1);
    }

    private static void ordinaryFields(Check check) {
        check.says("with E from 1 to 2046 (1 + F / 2 ^ 52) * 2 ^ (E - 1023)");
        check.divide(LEAST_NORMAL, 1, Samples.bits(0x1p52), Samples.bits(0x1p52));
        check.divide(LEAST_NORMAL + 1, 1, Samples.bits(0x1p52 + 1), Samples.bits(0x1p52 + 1));
        check.divide(GREATEST, Samples.bits(0x1p1023), TWO - 1, TWO - 1);
        check.add(ONE + 1, ONE | MINUS, Samples.bits(0x1p-52), Samples.bits(0x1p-52));
        check.add(GREATEST, GREATEST - 1 | MINUS, Samples.bits(0x1p971), Samples.bits(0x1p971));
        check.whole(GREATEST, 3, GREATEST);
        check.half(GREATEST, GREATEST, GREATEST);
        check.order(GREATEST, INFINITY, -1);
        for (long field = 1; field <= 2046; field++) {
            long x = field << 52 | field;
            check.multiply(x, ONE, x, x);
            // From a power of 2 to the next there are 2 ^ 52 floats, and the distance is the number itself.
            check.divide(x - field, field << 52 | MINUS, ONE | MINUS, ONE | MINUS);
            check.order(x, x + 1, -1);
        }
    }

    private static void infinity(Check check) {
        check.says("with E = 2047 and F = 0 INFINITY");
        check.order(INFINITY, GREATEST, 1);
        check.order(INFINITY | MINUS, GREATEST | MINUS, -1);
        check.order(INFINITY, INFINITY, 0);
        check.add(INFINITY, GREATEST | MINUS, INFINITY, INFINITY);
        check.multiply(INFINITY | MINUS, 1, INFINITY | MINUS, INFINITY | MINUS);
        check.divide(ONE, INFINITY, 0, 0);
        check.whole(INFINITY, 0, INFINITY);
        check.half(INFINITY, ONE, NAN);
    }

    private static void notANumber(Check check) {
        check.says("otherwise none (a NaN, told as 9221120237041090560)");
        for (int place = 0; place < 52; place++) {
            for (long sign : new long[] {0, MINUS}) {
                long nan = INFINITY | sign | 1L << place;
                check.add(nan, 0, NAN, NAN);
                check.whole(nan, 2, NAN);
                check.order(nan, 0, 2);
                // The same F beside another E is no NaN.
                long finite = GREATEST & ~(LEAST_NORMAL - 1) | sign | 1L << place;
                check.add(finite, 0, finite, finite);
                check.order(finite, finite, 0);
            }
        }
        check.order(INFINITY | LEAST_NORMAL - 1, 0, 2);
        check.order(-1, -1, 2);
        check.root(-1, 9221120237041090560L, 9221120237041090560L);
    }

    private static void zerosWithoutSign(Check check) {
        check.says("Zeros that are answered have no sign.");
        check.add(MINUS, MINUS, 0, 0);
        check.add(MINUS, 0, 0, 0);
        check.add(0, MINUS, 0, 0);
        check.add(1 | MINUS, 1, 0, 0);
        check.add(GREATEST, GREATEST | MINUS, 0, 0);
        check.multiply(MINUS, Samples.bits(5), 0, 0);
        check.multiply(0, Samples.bits(-5), 0, 0);
        check.multiply(INFINITY | MINUS, 0, 0, 0);
        check.multiply(1 | MINUS, HALF, true, 0);
        check.divide(MINUS, Samples.bits(5), 0, 0);
        check.divide(0, Samples.bits(-5), 0, 0);
        check.divide(ONE | MINUS, INFINITY, 0, 0);
        check.divide(ONE, INFINITY | MINUS, 0, 0);
        check.divide(1 | MINUS, TWO, true, 0);
        check.root(MINUS, 0, 0);
        check.fused(MINUS, ONE, MINUS, 0, 0);
        check.fused(TWO, Samples.bits(-3), Samples.bits(6), 0, 0);
        check.fused(INFINITY | MINUS, 0, MINUS, 0, 0);
        check.fused(1 | MINUS, 1, 0, true, 0);
        check.power(MINUS, 1, 0, 0);
        check.power(MINUS, 39, 0, 0);
        check.power(INFINITY | MINUS, -1, 0, 0);
        check.power(1 | MINUS, 3, true, 0);
        check.power(GREATEST | MINUS, -3, true, 0);
        check.half(MINUS, MINUS, 0);
        check.half(MINUS, 1 | MINUS, 0);
        check.half(ONE, ONE | MINUS, 0);
        for (int how = 0; how <= 3; how++) {
            check.whole(MINUS, how, 0);
        }
        check.whole(Samples.bits(-0.75), 0, 0);
        check.whole(Samples.bits(-0.75), 2, 0);
        check.whole(Samples.bits(-0.5), 3, 0);
        check.whole(1 | MINUS, 3, 0);
    }

    private static void downAndUp(Check check) {
        check.says(ROUNDED);
        long third = Samples.bits(1.0 / 3);
        long rootOfTwo = Samples.bits(0x1.6a09e667f3bccp0);
        check.add(ONE, 1, ONE, ONE + 1);
        check.add(ONE | MINUS, 1 | MINUS, ONE + 1 | MINUS, ONE | MINUS);
        check.multiply(ONE + 1, ONE + 1, ONE + 2, ONE + 3);
        check.multiply(ONE + 1, ONE + 1 | MINUS, ONE + 3 | MINUS, ONE + 2 | MINUS);
        check.divide(ONE, Samples.bits(3), third, third + 1);
        check.divide(ONE, Samples.bits(-3), third + 1 | MINUS, third | MINUS);
        check.root(TWO, rootOfTwo, rootOfTwo + 1);
        check.fused(ONE + 1, ONE + 1, 1, ONE + 2, ONE + 3);
        check.fused(ONE + 1, ONE + 1 | MINUS, 1, ONE + 3 | MINUS, ONE + 2 | MINUS);
        check.power(Samples.bits(3), -1, third, third + 1);
        check.power(Samples.bits(-3), -1, third + 1 | MINUS, third | MINUS);
        check.power(ONE + 1, 2, ONE + 2, ONE + 3);
        // What is a float is the greatest one not above itself, and the least one not below.
        check.add(TWO, Samples.bits(-3), ONE | MINUS, ONE | MINUS);
        check.divide(Samples.bits(-15), Samples.bits(5), Samples.bits(-3), Samples.bits(-3));
        check.root(Samples.bits(9), Samples.bits(3), Samples.bits(3));
        // Rounding up to the next power of 2, and from the floats of E = 0 to those of E = 1.
        check.add(TWO - 1, 1, TWO - 1, TWO);
        check.fused(1, 1, GREATEST_SUBNORMAL, GREATEST_SUBNORMAL, LEAST_NORMAL);
        check.multiply(LEAST_NORMAL, ONE - 1, GREATEST_SUBNORMAL, LEAST_NORMAL);
    }

    /** Between 0 and the least float, on both sides. */
    private static void tooSmall(Check check) {
        check.says(ROUNDED);
        check.multiply(1, HALF, 0, 1);
        check.multiply(1, HALF | MINUS, 1 | MINUS, 0);
        check.multiply(1, ONE - 1, 0, 1);
        check.multiply(1, 1, 0, 1);
        check.divide(1, GREATEST, 0, 1);
        check.divide(1, GREATEST | MINUS, 1 | MINUS, 0);
        check.divide(1, ONE + 1, 0, 1);
        check.fused(1, 1, 0, 0, 1);
        check.fused(1, 1 | MINUS, 0, 1 | MINUS, 0);
        check.fused(1, 1, 1 | MINUS, 1 | MINUS, 0);
        check.power(1, 40, 0, 1);
        check.power(1 | MINUS, 39, 1 | MINUS, 0);
        check.power(GREATEST, -40, 0, 1);
        check.power(GREATEST | MINUS, -39, 1 | MINUS, 0);
        // Between the least floats.
        check.multiply(3, HALF, 1, 2);
        check.multiply(3, HALF | MINUS, 2 | MINUS, 1 | MINUS);
        check.divide(5, TWO, 2, 3);
    }

    private static void tooLarge(Check check) {
        check.says("infinity among these");
        check.add(GREATEST, 1, GREATEST, INFINITY);
        check.add(GREATEST | MINUS, 1 | MINUS, INFINITY | MINUS, GREATEST | MINUS);
        check.add(GREATEST, GREATEST, GREATEST, INFINITY);
        check.add(Samples.bits(0x1p1023), Samples.bits(0x1p1023), GREATEST, INFINITY);
        check.add(Samples.bits(0x1p1023), Samples.bits(0x1p1023) - 1, GREATEST, INFINITY);
        check.multiply(GREATEST, ONE + 1, GREATEST, INFINITY);
        check.multiply(GREATEST, GREATEST | MINUS, INFINITY | MINUS, GREATEST | MINUS);
        check.divide(GREATEST, ONE - 1, GREATEST, INFINITY);
        check.divide(GREATEST | MINUS, 1, INFINITY | MINUS, GREATEST | MINUS);
        check.fused(GREATEST, ONE, 1, GREATEST, INFINITY);
        check.fused(1, 1, GREATEST, GREATEST, INFINITY);
        check.fused(GREATEST, GREATEST | MINUS, GREATEST, INFINITY | MINUS, GREATEST | MINUS);
        check.power(GREATEST, 2, GREATEST, INFINITY);
        check.power(GREATEST | MINUS, 39, INFINITY | MINUS, GREATEST | MINUS);
        check.power(1, -1, GREATEST, INFINITY);
        check.power(1 | MINUS, -39, INFINITY | MINUS, GREATEST | MINUS);
        // What just fits.
        check.add(Samples.bits(0x1p1023), Samples.bits(0x1p1023) - 2, GREATEST, GREATEST);
        check.add(GREATEST, 1 | MINUS, GREATEST - 1, GREATEST);
        check.multiply(GREATEST >> 52 << 52, TWO - 1, GREATEST, GREATEST);
        check.multiply(GREATEST, ONE | MINUS, GREATEST | MINUS, GREATEST | MINUS);
        check.divide(GREATEST, ONE + 1, GREATEST - 2, GREATEST - 1);
        check.fused(GREATEST, TWO, GREATEST | MINUS, GREATEST, GREATEST);
    }

    private static void nearest(Check check) {
        check.says("to the NEAREST that which is nearest");
        // Beside 1 / 2, in fourths of the last place and closer to its middle.
        check.half(ONE, Samples.bits(0x1p-54), HALF);
        check.half(ONE, Samples.bits(0x3p-54), HALF + 1);
        check.half(ONE, Samples.bits(0x1p-53) - 1, HALF);
        check.half(ONE, Samples.bits(0x1p-53) + 1, HALF + 1);
        check.half(ONE + 1, Samples.bits(0x1p-53) - 1, HALF + 1);
        check.half(ONE + 1, Samples.bits(0x1p-53) + 1, HALF + 2);
        check.half(ONE | MINUS, Samples.bits(-0x1p-53) + 1, HALF + 1 | MINUS);
        check.half(ONE | MINUS, Samples.bits(-0x1p-53) - 1, HALF | MINUS);
        check.half(ONE | MINUS, 1 | MINUS, HALF | MINUS);
        check.half(ONE, 1 | MINUS, HALF);
        check.half(ONE, 1, HALF);
        // What is a float is nearest to itself.
        check.half(ONE, ONE + 2, ONE + 1);
        check.half(1, 3, 2);
        check.half(1 | MINUS, 3, 1);
        check.half(GREATEST, GREATEST - 2, GREATEST - 1);
    }

    private static void ofTwoTheEven(Check check) {
        check.says("of two the one with an even F");
        for (long sign : new long[] {0, MINUS}) {
            for (long x : new long[] {2, GREATEST_SUBNORMAL - 1, LEAST_NORMAL, ONE, ONE + 6, TWO - 2, TWO, GREATEST - 1}) {
                check.half(x | sign, x + 1 | sign, x | sign);
                check.half(x | sign, x - 1 | sign, x | sign);
            }
            check.half(sign, 1 | sign, 0);
            check.half(ONE | sign, Samples.bits(0x1p-53) | sign, HALF | sign);
            check.half(ONE + 1 | sign, Samples.bits(0x1p-53) | sign, HALF + 2 | sign);
        }
    }

    /** No call reaches the limit: half is the one that rounds so, and half of two floats is not above the greater one. */
    private static void nearestOfTheGreatest(Check check) {
        check.says("and infinity from 2 ^ 1024 - 2 ^ 970 on");
        for (long sign : new long[] {0, MINUS}) {
            check.half(GREATEST | sign, GREATEST | sign, GREATEST | sign);
            check.half(GREATEST | sign, GREATEST - 1 | sign, GREATEST - 1 | sign);
            check.half(GREATEST - 1 | sign, GREATEST - 1 | sign, GREATEST - 1 | sign);
            check.half(GREATEST | sign, Samples.bits(0x1p1023) | sign, Samples.bits(0x1.8p1023) | sign);
            check.half(GREATEST | sign, Samples.bits(0x1p970) | sign, Samples.bits(0x1p1023) | sign);
            check.half(GREATEST | sign, sign, Samples.bits(0x1p1023) - 1 | sign);
        }
    }

    private static void operandsThatAreNaN(Check check) {
        check.says("An operand that is a NaN");
        for (long nan : Samples.NANS) {
            for (long other : Samples.allEdges()) {
                check.add(nan, other, NAN, NAN);
                check.add(other, nan, NAN, NAN);
                check.multiply(nan, other, NAN, NAN);
                check.multiply(other, nan, NAN, NAN);
                check.divide(nan, other, NAN, NAN);
                check.divide(other, nan, NAN, NAN);
                check.half(nan, other, NAN);
                check.half(other, nan, NAN);
                // Also beside infinity times 0, and beside what is infinite already.
                for (long third : new long[] {0, MINUS, ONE, INFINITY, INFINITY | MINUS, NAN}) {
                    check.fused(nan, other, third, NAN, NAN);
                    check.fused(other, nan, third, NAN, NAN);
                    check.fused(other, third, nan, NAN, NAN);
                }
            }
            check.root(nan, NAN, NAN);
            for (int n = -41; n <= 41; n++) {
                check.power(nan, n, NAN, NAN);
            }
            for (int how = -1; how <= 4; how++) {
                check.whole(nan, how, NAN);
            }
        }
    }

    private static void withoutValue(Check check) {
        check.says(", and what has no value (told below), makes the answer the NaN.");
        check.add(INFINITY, INFINITY | MINUS, NAN, NAN);
        check.divide(ONE, 0, NAN, NAN);
        check.divide(0, MINUS, NAN, NAN);
        check.divide(INFINITY, 0, NAN, NAN);
        check.divide(INFINITY | MINUS, INFINITY, NAN, NAN);
        check.root(1 | MINUS, NAN, NAN);
        check.root(INFINITY | MINUS, NAN, NAN);
        check.fused(INFINITY, ONE, INFINITY | MINUS, NAN, NAN);
        check.power(0, -1, NAN, NAN);
        check.power(ONE, 41, NAN, NAN);
        check.power(ONE, -41, NAN, NAN);
        check.half(INFINITY, INFINITY, NAN);
        check.half(ONE, INFINITY | MINUS, NAN);
        check.whole(ONE, -1, NAN);
        check.whole(ONE, 4, NAN);
    }

    private static void upOrDown(Check check) {
        check.says("Otherwise the exact value is rounded up, or down if up is false.");
        check.add(ONE, 1, true, ONE + 1);
        check.add(ONE, 1, false, ONE);
        check.add(ONE | MINUS, 1, true, ONE - 1 | MINUS);
        check.add(ONE | MINUS, 1, false, ONE | MINUS);
        check.multiply(1, 1, true, 1);
        check.multiply(1, 1, false, 0);
        check.multiply(1, 1 | MINUS, true, 0);
        check.multiply(1, 1 | MINUS, false, 1 | MINUS);
        check.divide(1, TWO, true, 1);
        check.divide(1, TWO, false, 0);
        check.divide(1 | MINUS, TWO, true, 0);
        check.divide(1 | MINUS, TWO, false, 1 | MINUS);
        check.root(ONE + 1, true, ONE + 1);
        check.root(ONE + 1, false, ONE);
        check.fused(1, 1, ONE, true, ONE + 1);
        check.fused(1, 1, ONE, false, ONE);
        check.fused(1, 1, ONE | MINUS, true, ONE - 1 | MINUS);
        check.fused(1, 1, ONE | MINUS, false, ONE | MINUS);
        check.power(ONE + 1, 2, true, ONE + 3);
        check.power(ONE + 1, 2, false, ONE + 2);
        check.power(ONE + 1 | MINUS, -1, true, ONE - 2 | MINUS);
        check.power(ONE + 1 | MINUS, -1, false, ONE - 1 | MINUS);
        // The exact value: what the least float adds is lost by no call.
        check.fused(GREATEST, GREATEST, 1 | MINUS, false, GREATEST);
        check.fused(Samples.bits(0x1p500), Samples.bits(0x1p500), 1, true, Samples.bits(0x1p1000) + 1);
        check.fused(Samples.bits(0x1p500), Samples.bits(0x1p500), 1 | MINUS, false, Samples.bits(0x1p1000) - 1);
    }

    private static void infiniteOperands(Check check) {
        check.says("Infinities are operands like others, as limits: "
            + "a value that is infinite is told as infinity, with its sign.");
        for (long sign : new long[] {0, MINUS}) {
            long same = INFINITY | sign;
            long turned = same ^ MINUS;
            for (long x : new long[] {1, GREATEST_SUBNORMAL, LEAST_NORMAL, ONE, GREATEST, INFINITY}) {
                check.multiply(same, x, same, same);
                check.multiply(x, same, same, same);
                check.multiply(same, x | MINUS, turned, turned);
                check.multiply(x | MINUS, same, turned, turned);
                check.fused(same, x, GREATEST | sign ^ MINUS, same, same);
                check.fused(x | MINUS, same, GREATEST | sign, turned, turned);
            }
            for (long x : Samples.finiteEdges()) {
                check.add(same, x, same, same);
                check.add(x, same, same, same);
                check.fused(x, GREATEST, same, same, same);
                check.divide(x, same, 0, 0);
                if (!Exact.isZero(x)) {
                    check.divide(same, x, x < 0 ? turned : same, x < 0 ? turned : same);
                }
                check.order(same, x, sign == 0 ? 1 : -1);
                check.order(x, same, sign == 0 ? -1 : 1);
            }
            check.add(same, same, same, same);
            check.power(same, 1, same, same);
            check.power(same, 39, same, same);
            check.power(same, 2, INFINITY, INFINITY);
            check.power(same, 40, INFINITY, INFINITY);
            check.power(same, -1, 0, 0);
            check.whole(same, 1, same);
        }
        check.root(INFINITY, INFINITY, INFINITY);
        check.order(INFINITY | MINUS, INFINITY, -1);
    }
}
