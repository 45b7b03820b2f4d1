/** The section "What it is". */
final class WhatItIsTest {
    private static final int CALLS = 512;
    private static final long MINUS = Samples.MINUS;
    private static final long GREATEST = Samples.GREATEST;
    private static final long ONE = Samples.ONE;

    public static void main(String[] args) {
        Check check = new Check("What it is");
        roundedJustOnce(check);
        fiveHundredAndTwelveCalls(check);
        check.end();
    }

    /** Answers that a second rounding on the way would spoil. */
    private static void roundedJustOnce(Check check) {
        check.says("Reckons with floats of 64 bits that are told by their bits, each result rounded just once, "
            + "down or up, or to the nearest: sums, products, quotients, roots, a product and a sum together, "
            + "powers, whole numbers, halves of sums.");
        check.add(Samples.bits(2), Samples.bits(3), Samples.bits(5), Samples.bits(5));
        check.multiply(Samples.bits(2), Samples.bits(3), Samples.bits(6), Samples.bits(6));
        check.divide(Samples.bits(3), Samples.bits(2), Samples.bits(1.5), Samples.bits(1.5));
        check.root(Samples.bits(9), Samples.bits(3), Samples.bits(3));
        check.whole(Samples.bits(2.5), 0, Samples.bits(3));
        check.order(Samples.bits(2), Samples.bits(3), -1);
        // The product alone would lose its last bits, or be past the greatest float, or be nothing.
        check.fused(ONE + 1, ONE + 1, ONE + 2 | MINUS, Samples.bits(0x1p-104), Samples.bits(0x1p-104));
        check.fused(GREATEST, Samples.bits(2), GREATEST | MINUS, GREATEST, GREATEST);
        check.fused(1, Samples.bits(0.5), 1 | MINUS, 1 | MINUS, 0);
        // With u for the last place, (1 + u)^3 lies just above 1 + 3u; rounded up twice it would be 1 + 5u.
        check.power(ONE + 1, 3, ONE + 3, ONE + 4);
        check.power(ONE + 1, 40, ONE + 40, ONE + 41);
        // (1 + u)^-40 lies just above 1 - 40u, and places below 1 are half of u.
        check.power(ONE + 1, -40, ONE - 80, ONE - 79);
        // 3^40 has 64 bits, and 3^33 is the last power of 3 that a float holds.
        check.power(Samples.bits(3), 40, Samples.bits(0x1.517168a4523fdp63), Samples.bits(0x1.517168a4523fep63));
        // The sum alone would be past the greatest float, or lose its last bits.
        check.half(GREATEST, GREATEST, GREATEST);
        check.half(GREATEST, GREATEST - 2, GREATEST - 1);
        check.half(Samples.GREATEST_SUBNORMAL, Samples.GREATEST_SUBNORMAL, Samples.GREATEST_SUBNORMAL);
        check.half(ONE, Samples.bits(0x1p-53), Samples.bits(0.5));
        check.half(ONE, Samples.bits(0x1p-53) + 1, Samples.bits(0.5) + 1);
    }

    /** The last call that is promised is answered like the first. */
    private static void fiveHundredAndTwelveCalls(Check check) {
        check.says("An object is used for at most 512 calls after it has been made; what later calls answer is free.");
        for (int kind = 0; kind < Calls.KINDS; kind++) {
            OutwardFloats floats = new OutwardFloats();
            for (int call = 1; call <= CALLS; call++) {
                long x = Samples.bits(call);
                long got = Calls.ask(floats, kind, x, Samples.bits(3), x);
                check.due("kind " + kind + ", call " + call, got, Calls.ask(new OutwardFloats(), kind, x, Samples.bits(3), x));
            }
        }
        OutwardFloats floats = new OutwardFloats();
        for (int call = 1; call < CALLS; call++) {
            floats.power(GREATEST - call, call % 2 == 0 ? 40 : -40, true);
        }
        check.due("the 512th call", floats.power(Samples.bits(3), 2, true), Samples.bits(9));
    }
}
