import java.util.List;
import java.util.function.Supplier;

/** Counts answers that are not due, prints each of them, and ends the test with exit code 1 if there was one. */
final class Check {
    /** So many faults tell enough. */
    private static final int MANY = 50;

    /** A call of the face, written where its exception is looked at. */
    interface Call {
        long run();
    }

    private int wrong;
    private int looked;
    private int sentences;
    private int lookedBefore;
    private String sentence = "";

    /** The words of the document that the next answers are due by. */
    void says(String words) {
        endSentence();
        sentence = words;
        sentences++;
        lookedBefore = looked;
    }

    private void endSentence() {
        if (!sentence.isEmpty() && looked == lookedBefore) {
            fault("no answer was looked at");
        }
    }

    private void fault(String text) {
        wrong++;
        System.out.println(sentence.isEmpty() ? text : "\"" + sentence + "\": " + text);
        if (wrong == MANY) {
            System.out.println("there may be more");
            System.exit(1);
        }
    }

    void due(String what, long got, long want) {
        looked++;
        if (got != want) {
            fault(what + " answered " + got + ", due is " + want);
        }
    }

    /** Something that must be so; the text is asked for only if it is not. */
    void holds(boolean so, Supplier<String> otherwise) {
        looked++;
        if (!so) {
            fault(otherwise.get());
        }
    }

    /** Two lists of what the face told, of which the second must be like the first. */
    void same(String what, List<Integer> before, List<Integer> after) {
        looked++;
        if (!before.equals(after)) {
            fault(what + ": the face told " + before + ", and then " + after);
        }
    }

    void row(String what, int[] got, int... want) {
        due(what + ": length", got.length, want.length);
        for (int k = 0; k < Math.min(got.length, want.length); k++) {
            due(what + " [" + k + "]", got[k], want[k]);
        }
    }

    void badArgument(String what, Call call) {
        fails(what, "IllegalArgumentException", call);
    }

    void badState(String what, Call call) {
        fails(what, "IllegalStateException", call);
    }

    void noElement(String what, Call call) {
        fails(what, "NoSuchElementException", call);
    }

    void fails(String what, String want, Call call) {
        looked++;
        String got = outcome(call);
        if (!got.equals(want)) {
            fault(what + ": " + got + ", due is " + want);
        }
    }

    /** What a call did, as a text: its answer, or the name of what it threw. */
    static String outcome(Call call) {
        try {
            return Long.toString(call.run());
        } catch (RuntimeException e) {
            return e.getClass().getSimpleName();
        }
    }

    void end() {
        endSentence();
        System.out.println((sentences == 0 ? "" : sentences + " sentences, ")
            + looked + " answers looked at, " + wrong + " not as due");
        if (wrong != 0 || looked == 0) {
            System.exit(1);
        }
    }
}
