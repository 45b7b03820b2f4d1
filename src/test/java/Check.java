/** Counts the answers that are not as due, and hands out objects that are young enough to be asked. */
final class Check {
    private static final int CALLS_OF_ONE_OBJECT = 512;
    private static final int SHOWN = 20;

    private int asked;
    private int wrong;
    private int callsLeft;
    private OutwardFloats floats;

    /** The object to ask for one call. */
    OutwardFloats floats() {
        if (callsLeft == 0) {
            floats = new OutwardFloats();
            callsLeft = CALLS_OF_ONE_OBJECT;
        }
        callsLeft--;
        return floats;
    }

    void due(String call, long got, long want) {
        asked++;
        if (got != want) {
            wrong++;
            if (wrong <= SHOWN) {
                System.out.println(call + " answered " + got + ", due is " + want);
            }
        }
    }

    void add(long x, long y, boolean up, long want) {
        due("add(" + x + ", " + y + ", " + up + ")", floats().add(x, y, up), want);
    }

    void multiply(long x, long y, boolean up, long want) {
        due("multiply(" + x + ", " + y + ", " + up + ")", floats().multiply(x, y, up), want);
    }

    void divide(long x, long y, boolean up, long want) {
        due("divide(" + x + ", " + y + ", " + up + ")", floats().divide(x, y, up), want);
    }

    void root(long x, boolean up, long want) {
        due("root(" + x + ", " + up + ")", floats().root(x, up), want);
    }

    void fused(long x, long y, long z, boolean up, long want) {
        due("fused(" + x + ", " + y + ", " + z + ", " + up + ")", floats().fused(x, y, z, up), want);
    }

    void power(long x, int n, boolean up, long want) {
        due("power(" + x + ", " + n + ", " + up + ")", floats().power(x, n, up), want);
    }

    void half(long x, long y, long want) {
        due("half(" + x + ", " + y + ")", floats().half(x, y), want);
    }

    void whole(long x, int how, long want) {
        due("whole(" + x + ", " + how + ")", floats().whole(x, how), want);
    }

    void order(long x, long y, int want) {
        due("order(" + x + ", " + y + ")", floats().order(x, y), want);
    }

    void end() {
        System.out.println(asked + " answers, " + wrong + " not as due");
        if (wrong != 0 || asked == 0) {
            System.exit(1);
        }
    }
}
