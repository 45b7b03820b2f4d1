import java.util.LinkedHashMap;
import java.util.Map;

/**
 * Counts the answers that are not as due, by the sentence of the document that asks
 * for them, and hands out objects that are young enough to be asked.
 */
final class Check {
    private static final int CALLS_OF_ONE_OBJECT = 512;
    private static final int SHOWN = 20;

    private final String section;
    private final Map<String, Sentence> sentences = new LinkedHashMap<>();
    private Sentence current = new Sentence("no sentence");
    private int asked;
    private int wrong;
    private int callsLeft;
    private OutwardFloats floats;

    /** For a test that quotes all sentences of a section of the document. */
    Check(String section) {
        this.section = section;
    }

    /** For a test that quotes nothing. */
    Check() {
        this(null);
    }

    /** The answers that follow are due by these words of the section. */
    void says(String words) {
        current = sentences.computeIfAbsent(words, Sentence::new);
    }

    /** Whether every answer under the words that were said last was as due. */
    boolean holds() {
        return current.wrong == 0;
    }

    /** The object to ask for one call. */
    OutwardFloats floats() {
        if (callsLeft == 0) {
            floats = new OutwardFloats();
            callsLeft = CALLS_OF_ONE_OBJECT;
        }
        callsLeft--;
        return floats;
    }

    void due(String call, long got, long want) {
        asked++;
        current.asked++;
        if (got != want) {
            wrong++;
            current.wrong++;
            if (wrong <= SHOWN) {
                System.out.println(current.words + ": " + call + " answered " + got + ", due is " + want);
            }
        }
    }

    void add(long x, long y, boolean up, long want) {
        due("add(" + x + ", " + y + ", " + up + ")", floats().add(x, y, up), want);
    }

    void multiply(long x, long y, boolean up, long want) {
        due("multiply(" + x + ", " + y + ", " + up + ")", floats().multiply(x, y, up), want);
    }

    void divide(long x, long y, boolean up, long want) {
        due("divide(" + x + ", " + y + ", " + up + ")", floats().divide(x, y, up), want);
    }

    void root(long x, boolean up, long want) {
        due("root(" + x + ", " + up + ")", floats().root(x, up), want);
    }

    void fused(long x, long y, long z, boolean up, long want) {
        due("fused(" + x + ", " + y + ", " + z + ", " + up + ")", floats().fused(x, y, z, up), want);
    }

    void power(long x, int n, boolean up, long want) {
        due("power(" + x + ", " + n + ", " + up + ")", floats().power(x, n, up), want);
    }

    void half(long x, long y, long want) {
        due("half(" + x + ", " + y + ")", floats().half(x, y), want);
    }

    void whole(long x, int how, long want) {
        due("whole(" + x + ", " + how + ")", floats().whole(x, how), want);
    }

    void order(long x, long y, int want) {
        due("order(" + x + ", " + y + ")", floats().order(x, y), want);
    }

    // The same calls rounded both ways: what is due down, then what is due up.

    void add(long x, long y, long down, long up) {
        add(x, y, false, down);
        add(x, y, true, up);
    }

    void multiply(long x, long y, long down, long up) {
        multiply(x, y, false, down);
        multiply(x, y, true, up);
    }

    void divide(long x, long y, long down, long up) {
        divide(x, y, false, down);
        divide(x, y, true, up);
    }

    void root(long x, long down, long up) {
        root(x, false, down);
        root(x, true, up);
    }

    void fused(long x, long y, long z, long down, long up) {
        fused(x, y, z, false, down);
        fused(x, y, z, true, up);
    }

    void power(long x, int n, long down, long up) {
        power(x, n, false, down);
        power(x, n, true, up);
    }

    void end() {
        int faults = section == null ? 0 : faultsOfQuotes();
        for (Sentence sentence : sentences.values()) {
            if (sentence.wrong != 0 || sentence.asked == 0) {
                faults++;
                System.out.println("NOT HELD (" + section + "): " + sentence.words + ": "
                    + sentence.wrong + " of " + sentence.asked + " answers not as due");
            }
        }
        System.out.println(asked + " answers, " + wrong + " not as due; " + sentences.size() + " sentences");
        if (faults != 0 || wrong != 0 || asked == 0) {
            System.exit(1);
        }
    }

    private int faultsOfQuotes() {
        int count = 0;
        for (String fault : Document.faults(section, sentences.values())) {
            System.out.println(fault);
            count++;
        }
        return count;
    }
}
