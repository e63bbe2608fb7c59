import java.util.HashSet;
import java.util.Set;

/** Counts answers, tells the wrong ones, and hands out what several tests need. */
final class Check {
    private static final int CALLS_PROMISED = 512;
    private static final int TOLD = 40;

    private final String name;
    private long right;
    private long wrong;
    private String sentence;
    private long answersBefore;
    private final Set<String> sentences = new HashSet<>();
    private GlulxFloats object;
    private int calls;
    private long state = 20261116L;

    Check(String name) {
        this.name = name;
    }

    void due(String call, long got, long want) {
        if (got == want) {
            right++;
            return;
        }
        wrong++;
        if (wrong <= TOLD) {
            String where = sentence == null ? "" : "[" + sentence + "] ";
            System.out.println(name + ": " + where + call + " answered " + got + " (" + Long.toHexString(got)
                + "), due is " + want + " (" + Long.toHexString(want) + ")");
        }
    }

    /** The answers from here on are due by this sentence of the document; one without an answer fails. */
    void sentence(String text) {
        endSentence();
        sentence = text;
        answersBefore = right + wrong;
        sentences.add(text);
    }

    private void endSentence() {
        if (sentence != null && right + wrong == answersBefore) {
            due("answers asked for", 0, 1);
        }
    }

    /** An object for one call of a function without memory: a new one before the promise ends. */
    GlulxFloats any() {
        if (object == null || calls == CALLS_PROMISED) {
            object = new GlulxFloats();
            calls = 0;
        }
        calls++;
        return object;
    }

    /** The same row of numbers in every run. */
    long number() {
        state = state * 6364136223846793005L + 1442695040888963407L;
        long x = state;
        x ^= x >>> 32;
        x *= 0x9E3779B97F4A7C15L;
        return x ^ x >>> 29;
    }

    int below(int bound) {
        return (int) Long.remainderUnsigned(number(), bound);
    }

    void end() {
        endSentence();
        String of = sentences.isEmpty() ? "" : " of " + sentences.size() + " sentences";
        System.out.println(name + ": " + right + " answers" + of + " as due, " + wrong + " not");
        if (wrong != 0 || right == 0) {
            System.exit(1);
        }
    }
}
