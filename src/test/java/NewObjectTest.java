/** Promise 1. */
final class NewObjectTest {
    private static final int CALLS = 512;
    private static final int RUNS = 60;
    private static final long MINUS = Samples.MINUS;

    public static void main(String[] args) {
        Check check = new Check("Promise 1: A new object");
        check.says("Nothing is kept.");
        firstCalls(check);
        afterOneOther(check);
        afterManyOthers(check);
        check.end();
    }

    /** Each call as the first one of its object. */
    private static void firstCalls(Check check) {
        long two = Samples.bits(2);
        long three = Samples.bits(3);
        check.due("add first", new OutwardFloats().add(two, three, true), Samples.bits(5));
        check.due("multiply first", new OutwardFloats().multiply(two, three, true), Samples.bits(6));
        check.due("divide first", new OutwardFloats().divide(three, two, true), Samples.bits(1.5));
        check.due("root first", new OutwardFloats().root(Samples.bits(9), true), three);
        check.due("fused first", new OutwardFloats().fused(two, three, two, true), Samples.bits(8));
        check.due("power first", new OutwardFloats().power(three, 3, true), Samples.bits(27));
        check.due("power first", new OutwardFloats().power(two, -3, true), Samples.bits(0.125));
        check.due("half first", new OutwardFloats().half(two, three), Samples.bits(2.5));
        check.due("whole first", new OutwardFloats().whole(Samples.bits(2.5), 0), three);
        check.due("order first", new OutwardFloats().order(two, three), -1);
    }

    /** Every kind behind every kind, the first with operands that leave as much behind as can be. */
    private static void afterOneOther(Check check) {
        long[] before = {Samples.GREATEST, Samples.GREATEST | MINUS, 1, Samples.NAN, Samples.INFINITY, Samples.ONE + 1};
        long[] after = {Samples.bits(3), Samples.bits(-40), Samples.ONE - 1, 3, 0};
        for (int first = 0; first < Calls.KINDS; first++) {
            for (int second = 0; second < Calls.KINDS; second++) {
                for (long x : before) {
                    for (long y : after) {
                        OutwardFloats used = new OutwardFloats();
                        Calls.ask(used, first, x, x - 1, x);
                        long got = Calls.ask(used, second, y, Samples.bits(7), y);
                        long want = Calls.ask(new OutwardFloats(), second, y, Samples.bits(7), y);
                        check.due("kind " + second + " of " + y + " behind kind " + first + " of " + x, got, want);
                    }
                }
            }
        }
    }

    private static void afterManyOthers(Check check) {
        Samples samples = new Samples(1);
        for (int run = 0; run < RUNS; run++) {
            OutwardFloats old = new OutwardFloats();
            OutwardFloats other = new OutwardFloats();
            for (int call = 0; call < CALLS; call++) {
                int kind = samples.below(Calls.KINDS);
                long x = Calls.operand(samples);
                long y = Calls.operand(samples);
                long z = Calls.operand(samples);
                Calls.ask(other, samples.below(Calls.KINDS), z, x, y);
                long got = Calls.ask(old, kind, x, y, z);
                check.due("call " + call + " of run " + run, got, Calls.ask(new OutwardFloats(), kind, x, y, z));
            }
        }
    }
}
