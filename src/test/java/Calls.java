/** One of the nine calls, chosen by a number, so that runs of mixed calls can be made. */
final class Calls {
    static final int KINDS = 9;

    private Calls() {
    }

    /** The last bit of z is "up", unless z is an operand that is used; n and how are taken from y. */
    static long ask(OutwardFloats floats, int kind, long x, long y, long z) {
        boolean up = (z & 1) != 0;
        switch (kind) {
            case 0:
                return floats.add(x, y, up);
            case 1:
                return floats.multiply(x, y, up);
            case 2:
                return floats.divide(x, y, up);
            case 3:
                return floats.root(x, up);
            case 4:
                return floats.fused(x, y, z, (x & 1) != 0);
            case 5:
                return floats.power(x, (int) (y % 43), up);
            case 6:
                return floats.half(x, y);
            case 7:
                return floats.whole(x, (int) (y & 3));
            default:
                return floats.order(x, y);
        }
    }

    /** An edge of the document, or a float near 1. */
    static long operand(Samples samples) {
        long[] edges = Samples.allEdges();
        return samples.below(3) == 0 ? edges[samples.below(edges.length)] : samples.near(Samples.ONE, 60);
    }
}
