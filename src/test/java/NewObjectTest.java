/** Promise 1: nothing is kept, so an object that has been asked much answers like a new one. */
final class NewObjectTest {
    private static final int CALLS = 512;
    private static final int RUNS = 60;

    public static void main(String[] args) {
        Check check = new Check();
        Samples samples = new Samples(1);
        for (int run = 0; run < RUNS; run++) {
            OutwardFloats old = new OutwardFloats();
            OutwardFloats other = new OutwardFloats();
            for (int call = 0; call < CALLS; call++) {
                int which = samples.below(9);
                long x = operand(samples);
                long y = operand(samples);
                long z = operand(samples);
                ask(other, samples.below(9), z, x, y);
                long got = ask(old, which, x, y, z);
                check.due("call " + call + " of run " + run, got, ask(new OutwardFloats(), which, x, y, z));
            }
        }
        check.end();
    }

    private static long operand(Samples samples) {
        long[] edges = Samples.allEdges();
        return samples.below(3) == 0 ? edges[samples.below(edges.length)] : samples.near(Samples.bits(1), 60);
    }

    private static long ask(OutwardFloats floats, int which, long x, long y, long z) {
        boolean up = (z & 1) != 0;
        switch (which) {
            case 0:
                return floats.add(x, y, up);
            case 1:
                return floats.multiply(x, y, up);
            case 2:
                return floats.divide(x, y, up);
            case 3:
                return floats.root(x, up);
            case 4:
                return floats.fused(x, y, z, up);
            case 5:
                return floats.power(x, (int) (y % 43), up);
            case 6:
                return floats.half(x, y);
            case 7:
                return floats.whole(x, (int) (y & 3));
            default:
                return floats.order(x, y);
        }
    }
}
