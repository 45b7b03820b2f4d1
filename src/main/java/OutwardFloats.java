/**
 * Reckons with floats of 64 bits that are told by their bits. Every result is
 * reckoned exactly, or exactly but for a part that is known to lie strictly
 * between 0 and 1 of the last place held, and is then rounded just once.
 */
public final class OutwardFloats {
    // The directions bear the numbers that the document gives them as the "how" of whole.
    private static final int UP = 0;
    private static final int DOWN = 1;
    private static final int TOWARD_ZERO = 2;
    private static final int NEAREST = 3;

    private static final long SIGN_BIT = 1L << 63;
    private static final long MAGNITUDE_BITS = ~SIGN_BIT;
    private static final int FRACTION_LENGTH = 52;
    private static final long HIDDEN_BIT = 1L << FRACTION_LENGTH;
    private static final long FRACTION_BITS = HIDDEN_BIT - 1;
    private static final int ENDLESS_FIELD = 2047;
    private static final long INFINITY = (long) ENDLESS_FIELD << FRACTION_LENGTH;
    private static final long GREATEST = INFINITY - 1;
    private static final long NAN = 9221120237041090560L;
    private static final long ONE = 1023L << FRACTION_LENGTH;
    private static final int LEAST_EXPONENT = -1074;
    private static final int GREATEST_EXPONENT = 971;
    private static final long LOW_HALF = (1L << 32) - 1;

    private static final int MOST_FACTORS = 40;
    // 40 factors of 53 bits are 2120 bits, and a rest that is doubled takes one more: 71 digits of 30 bits.
    private static final int DIGITS = 72;
    private static final int DIGIT_LENGTH = 30;
    private static final int DIGIT_BITS = (1 << DIGIT_LENGTH) - 1;

    // More than the 53 bits of a float and fewer than the 63 that "rounded" takes.
    private static final int TAKEN_LENGTH = 60;
    private static final int QUOTIENT_STEPS = 55;
    private static final int ROOT_STEPS = 55;
    private static final int ROOT_PAIRS = 27;

    private final Wide total;
    private final Wide addend;
    private final Natural repeated;
    private final Natural rest;

    public OutwardFloats() {
        total = new Wide();
        addend = new Wide();
        repeated = new Natural();
        rest = new Natural();
    }

    public long add(long x, long y, boolean up) {
        return fused(x, ONE, y, up);
    }

    public long multiply(long x, long y, boolean up) {
        return fused(x, y, 0, up);
    }

    public long divide(long x, long y, boolean up) {
        if (isNaN(x) || isNaN(y) || isZero(y) || (isInfinite(x) && isInfinite(y))) {
            return NAN;
        }
        if (isInfinite(x)) {
            return withSign(INFINITY, (x ^ y) < 0);
        }
        if (isInfinite(y) || isZero(x)) {
            return 0;
        }
        return quotient(x, y, direction(up));
    }

    public long root(long x, boolean up) {
        if (isZero(x)) {
            return 0;
        }
        if (isNaN(x) || x < 0) {
            return NAN;
        }
        return isInfinite(x) ? x : rootOfFinite(x, direction(up));
    }

    public long fused(long x, long y, long z, boolean up) {
        if (isNaN(x) || isNaN(y) || isNaN(z)) {
            return NAN;
        }
        if (isInfiniteProduct(x, y)) {
            long product = withSign(INFINITY, (x ^ y) < 0);
            return isInfinite(z) && z != product ? NAN : product;
        }
        if (isInfinite(z)) {
            return z;
        }
        return scaledSum(x, y, z, 0, direction(up));
    }

    public long power(long x, int n, boolean up) {
        if (isNaN(x) || n > MOST_FACTORS || n < -MOST_FACTORS || (isZero(x) && n < 0)) {
            return NAN;
        }
        if (n == 0) {
            return ONE;
        }
        if (isZero(x)) {
            return 0;
        }
        boolean negative = x < 0 && (n & 1) != 0;
        if (isInfinite(x)) {
            return n > 0 ? withSign(INFINITY, negative) : 0;
        }
        return powerOfFinite(x, n, negative, direction(up));
    }

    public long half(long x, long y) {
        if (!isFinite(x) || !isFinite(y)) {
            return NAN;
        }
        return scaledSum(x, ONE, y, -1, NEAREST);
    }

    public long whole(long x, int how) {
        if (isNaN(x) || how < UP || how > NEAREST) {
            return NAN;
        }
        // Infinities stand here too: all their places lie before the point.
        if (exponentOf(x) >= 0) {
            return x;
        }
        long number = cut(significandOf(x), -exponentOf(x), false, x < 0, how);
        return rounded(number, 0, false, x < 0, TOWARD_ZERO);
    }

    public int order(long x, long y) {
        if (isNaN(x) || isNaN(y)) {
            return 2;
        }
        long a = rank(x);
        long b = rank(y);
        return a < b ? -1 : a > b ? 1 : 0;
    }

    // ---- what the bits say ----

    private static boolean isNaN(long x) {
        return (x & MAGNITUDE_BITS) > INFINITY;
    }

    private static boolean isInfinite(long x) {
        return (x & MAGNITUDE_BITS) == INFINITY;
    }

    private static boolean isFinite(long x) {
        return (x & MAGNITUDE_BITS) < INFINITY;
    }

    private static boolean isZero(long x) {
        return (x & MAGNITUDE_BITS) == 0;
    }

    private static boolean isInfiniteProduct(long x, long y) {
        return (isInfinite(x) || isInfinite(y)) && !isZero(x) && !isZero(y);
    }

    private static int fieldOf(long x) {
        return (int) (x >>> FRACTION_LENGTH & ENDLESS_FIELD);
    }

    /** A finite float is its significand times 2 ^ its exponent, with its sign. */
    private static long significandOf(long x) {
        return fieldOf(x) == 0 ? x & FRACTION_BITS : (x & FRACTION_BITS) | HIDDEN_BIT;
    }

    private static int exponentOf(long x) {
        int field = fieldOf(x);
        return field == 0 ? LEAST_EXPONENT : field - 1 + LEAST_EXPONENT;
    }

    /** How far the significand of x can be shifted up until it has 53 bits; x is not 0. */
    private static int slackOf(long x) {
        return FRACTION_LENGTH + 1 - lengthOf(significandOf(x));
    }

    private static int lengthOf(long bits) {
        return 64 - Long.numberOfLeadingZeros(bits);
    }

    private static long withSign(long magnitude, boolean negative) {
        return negative ? magnitude | SIGN_BIT : magnitude;
    }

    private static long rank(long x) {
        return x < 0 ? -(x & MAGNITUDE_BITS) : x;
    }

    private static int direction(boolean up) {
        return up ? UP : DOWN;
    }

    // ---- rounding ----

    /**
     * The float for significand * 2 ^ exponent. If something is lost, the magnitude
     * is above that by more than 0 and less than 2 ^ exponent; the significand has at
     * least 54 bits then, so that what is lost lies behind the last place of the answer.
     */
    private static long rounded(long significand, int exponent, boolean lost, boolean negative, int how) {
        if (significand == 0) {
            return 0;
        }
        int place = Math.max(exponent + lengthOf(significand) - 1 - FRACTION_LENGTH, LEAST_EXPONENT);
        if (place > GREATEST_EXPONENT) {
            return withSign(pastGreatest(negative, how), negative);
        }
        int shift = place - exponent;
        long kept = shift > 0 ? cut(significand, shift, lost, negative, how) : significand << -shift;
        // The hidden bit, and a carry out of rounding, add themselves to the field of the exponent.
        long magnitude = ((long) (place - LEAST_EXPONENT) << FRACTION_LENGTH) + kept;
        return magnitude == 0 ? 0 : withSign(magnitude, negative);
    }

    private static long pastGreatest(boolean negative, int how) {
        boolean inward = how == TOWARD_ZERO || how == (negative ? UP : DOWN);
        return inward ? GREATEST : INFINITY;
    }

    /** significand / 2 ^ shift as a whole number, for a magnitude with that sign; shift is above 0. */
    private static long cut(long significand, int shift, boolean lost, boolean negative, int how) {
        long kept = shift < 64 ? significand >>> shift : 0;
        boolean exact = !lost && (shift < 64 ? kept << shift == significand : significand == 0);
        if (exact || how == TOWARD_ZERO) {
            return kept;
        }
        boolean outward = how == NEAREST
            ? isNearerAbove(significand, shift, lost)
            : how == (negative ? DOWN : UP);
        return outward ? kept + 1 : kept;
    }

    private static boolean isNearerAbove(long significand, int shift, boolean lost) {
        // A significand has at most 63 bits, so a longer shift leaves less than a half.
        if (shift < 1 || shift > 63) {
            return false;
        }
        long middle = 1L << (shift - 1);
        long behind = significand & (middle | (middle - 1));
        if (behind != middle) {
            return behind > middle;
        }
        return lost || ((significand >>> shift) & 1) != 0;
    }

    // ---- sums, quotients, roots and powers of what is finite ----

    /** (x * y + z) * 2 ^ scale. An infinite factor may stand beside a 0, where any significand will do. */
    private long scaledSum(long x, long y, long z, int scale, int how) {
        total.setProduct(x, y);
        addend.setProduct(z, ONE);
        total.join(addend);
        // Only a sum of nearly all its bits can have lost some, and it has no need to be lifted.
        if (!total.lost) {
            total.lift();
        }
        boolean lost = total.lost || total.low != 0;
        return rounded(total.high, total.exponent + 64 + scale, lost, total.negative, how);
    }

    private static long quotient(long x, long y, int how) {
        long divisor = significandOf(y) << slackOf(y);
        long remainder = significandOf(x) << slackOf(x);
        int exponent = exponentOf(x) - slackOf(x) - exponentOf(y) + slackOf(y);
        long digits = 0;
        for (int step = 0; step <= QUOTIENT_STEPS; step++) {
            digits <<= 1;
            if (remainder >= divisor) {
                remainder -= divisor;
                digits |= 1;
            }
            remainder <<= 1;
        }
        return rounded(digits, exponent - QUOTIENT_STEPS, remainder != 0, (x ^ y) < 0, how);
    }

    private static long rootOfFinite(long x, int how) {
        long square = significandOf(x) << slackOf(x);
        int exponent = exponentOf(x) - slackOf(x);
        if ((exponent & 1) != 0) {
            square <<= 1;
            exponent--;
        }
        long digits = 0;
        long remainder = 0;
        for (int step = 1; step <= ROOT_STEPS; step++) {
            long pair = step <= ROOT_PAIRS ? (square >>> (2 * (ROOT_PAIRS - step))) & 3 : 0;
            remainder = (remainder << 2) | pair;
            long trial = (digits << 2) | 1;
            digits <<= 1;
            if (remainder >= trial) {
                remainder -= trial;
                digits |= 1;
            }
        }
        return rounded(digits, exponent / 2 - (ROOT_STEPS - ROOT_PAIRS), remainder != 0, false, how);
    }

    private long powerOfFinite(long x, int n, boolean negative, int how) {
        int even = Long.numberOfTrailingZeros(significandOf(x));
        long odd = significandOf(x) >>> even;
        int exponent = (exponentOf(x) + even) * n;
        if (odd == 1) {
            return rounded(1, exponent, false, negative, how);
        }
        repeated.setPower(odd, Math.abs(n));
        int length = repeated.length();
        if (n < 0) {
            // An odd number above 1 divides no power of 2, so something is always lost.
            return rounded(reciprocal(length), exponent - (length - 1) - QUOTIENT_STEPS, true, negative, how);
        }
        int taken = Math.min(length, TAKEN_LENGTH);
        // The number is odd: unless all its bits are taken, its last one is lost.
        return rounded(repeated.top(taken), exponent + length - taken, taken < length, negative, how);
    }

    /** The whole part of 2 ^ (length - 1 + QUOTIENT_STEPS) by the number in "repeated", which has that length. */
    private long reciprocal(int length) {
        rest.setBit(length - 1);
        long digits = 0;
        for (int step = 0; step < QUOTIENT_STEPS; step++) {
            rest.twice();
            digits <<= 1;
            if (!rest.isBelow(repeated)) {
                rest.take(repeated);
                digits |= 1;
            }
        }
        return digits;
    }

    /**
     * A number of up to 127 bits times 2 ^ exponent, with a sign; if something is
     * lost, its magnitude is above that by more than 0 and less than 2 ^ exponent.
     */
    private static final class Wide {
        // Two numbers of 126 bits have a sum whose high word is not negative.
        static final int LIFTED = 126;

        long high;
        long low;
        int exponent;
        boolean negative;
        boolean lost;

        void setProduct(long x, long y) {
            long a = significandOf(x);
            long b = significandOf(y);
            long bottom = (a & LOW_HALF) * (b & LOW_HALF);
            long middle = (a >>> 32) * (b & LOW_HALF) + (bottom >>> 32);
            long other = (a & LOW_HALF) * (b >>> 32) + (middle & LOW_HALF);
            high = (a >>> 32) * (b >>> 32) + (middle >>> 32) + (other >>> 32);
            low = (other << 32) | (bottom & LOW_HALF);
            exponent = exponentOf(x) + exponentOf(y);
            negative = (x ^ y) < 0;
            lost = false;
        }

        void copy(Wide other) {
            high = other.high;
            low = other.low;
            exponent = other.exponent;
            negative = other.negative;
            lost = other.lost;
        }

        boolean isNothing() {
            return high == 0 && low == 0;
        }

        /** Shifts up until the highest bit is the 126th; a number that has it already stays. */
        void lift() {
            int length = high != 0 ? 64 + lengthOf(high) : lengthOf(low);
            int shift = LIFTED - length;
            if (length == 0 || shift <= 0) {
                return;
            }
            if (shift >= 64) {
                high = low << (shift - 64);
                low = 0;
            } else {
                high = (high << shift) | (low >>> (64 - shift));
                low <<= shift;
            }
            exponent -= shift;
        }

        void sink(int shift) {
            if (shift <= 0) {
                return;
            }
            exponent += shift;
            if (shift >= 128) {
                lost = lost || !isNothing();
                high = 0;
                low = 0;
            } else if (shift >= 64) {
                int more = shift - 64;
                lost = lost || low != 0 || (high >>> more) << more != high;
                low = high >>> more;
                high = 0;
            } else {
                lost = lost || (low >>> shift) << shift != low;
                low = (low >>> shift) | (high << (64 - shift));
                high >>>= shift;
            }
        }

        /** Adds the other, which is used up. */
        void join(Wide other) {
            if (other.isNothing()) {
                return;
            }
            if (isNothing()) {
                copy(other);
                return;
            }
            lift();
            other.lift();
            int gap = exponent - other.exponent;
            other.sink(gap);
            sink(-gap);
            if (negative == other.negative) {
                raise(other);
            } else if (isBelow(other)) {
                other.lower(this);
                copy(other);
            } else {
                lower(other);
            }
        }

        boolean isBelow(Wide other) {
            return high != other.high ? high < other.high : isLess(low, other.low);
        }

        void raise(Wide other) {
            low += other.low;
            high += other.high + (isLess(low, other.low) ? 1 : 0);
            lost = lost || other.lost;
        }

        /** Takes the other away, which is not above this; only the other can have lost something. */
        void lower(Wide other) {
            high -= other.high + (isLess(low, other.low) ? 1 : 0);
            low -= other.low;
            if (other.lost) {
                high -= low == 0 ? 1 : 0;
                low--;
                lost = true;
            }
        }

        static boolean isLess(long a, long b) {
            return (a ^ SIGN_BIT) < (b ^ SIGN_BIT);
        }
    }

    /** A whole number of up to 72 digits of 30 bits, the lowest one first. */
    private static final class Natural {
        final int[] digits = new int[DIGITS];
        // Digits from here on are 0.
        int count;

        void clear() {
            for (int i = 0; i < DIGITS; i++) {
                digits[i] = 0;
            }
            count = 0;
        }

        void setBit(int place) {
            clear();
            int index = place / DIGIT_LENGTH;
            if (place >= 0 && index < DIGITS) {
                digits[index] = 1 << (place % DIGIT_LENGTH);
                count = index + 1;
            }
        }

        void setPower(long base, int times) {
            setBit(0);
            for (int i = 0; i < times; i++) {
                scale(base);
            }
        }

        /** Multiplies by a factor of at most 53 bits, whose two digits keep every sum below 2 ^ 62. */
        void scale(long factor) {
            long lowFactor = factor & DIGIT_BITS;
            long highFactor = factor >>> DIGIT_LENGTH;
            int end = Math.min(count + 2, DIGITS);
            long before = 0;
            long carry = 0;
            for (int i = 0; i < end; i++) {
                long digit = digits[i];
                long sum = digit * lowFactor + before * highFactor + carry;
                digits[i] = (int) (sum & DIGIT_BITS);
                carry = sum >>> DIGIT_LENGTH;
                before = digit;
            }
            count = end;
            trim();
        }

        void trim() {
            while (count > 0 && digits[count - 1] == 0) {
                count--;
            }
        }

        /** The number of bits; the highest digit is not 0. */
        int length() {
            return count == 0 ? 0 : (count - 1) * DIGIT_LENGTH + lengthOf(digits[count - 1]);
        }

        /** The highest bits, as many as are asked for, at most 63. */
        long top(int bits) {
            long taken = 0;
            int length = length();
            for (int place = length - 1; place >= length - bits; place--) {
                taken = (taken << 1) | bitAt(place);
            }
            return taken;
        }

        int bitAt(int place) {
            int index = place / DIGIT_LENGTH;
            return place < 0 || index >= DIGITS ? 0 : (digits[index] >>> (place % DIGIT_LENGTH)) & 1;
        }

        void twice() {
            int carry = 0;
            for (int i = 0; i < count; i++) {
                int sum = (digits[i] << 1) | carry;
                digits[i] = sum & DIGIT_BITS;
                carry = sum >>> DIGIT_LENGTH;
            }
            if (carry != 0 && count < DIGITS) {
                digits[count] = carry;
                count++;
            }
        }

        boolean isBelow(Natural other) {
            for (int i = Math.max(count, other.count) - 1; i >= 0; i--) {
                if (digits[i] != other.digits[i]) {
                    return digits[i] < other.digits[i];
                }
            }
            return false;
        }

        /** Takes the other away, which is not above this. */
        void take(Natural other) {
            int borrow = 0;
            for (int i = 0; i < count; i++) {
                int difference = digits[i] - other.digits[i] - borrow;
                borrow = difference < 0 ? 1 : 0;
                digits[i] = difference & DIGIT_BITS;
            }
            trim();
        }
    }
}
