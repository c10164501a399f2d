import java.util.NoSuchElementException;

/** Counts answers that are not due, prints each of them, and ends the test with exit code 1 if there was one. */
final class Check {
    /** A call of the face, written where its exception is looked at. */
    interface Call {
        long run();
    }

    private int wrong;
    private int looked;

    void due(String what, long got, long want) {
        looked++;
        if (got != want) {
            wrong++;
            System.out.println(what + " answered " + got + ", due is " + want);
        }
    }

    void row(String what, int[] got, int... want) {
        due(what + ": length", got.length, want.length);
        for (int k = 0; k < Math.min(got.length, want.length); k++) {
            due(what + " [" + k + "]", got[k], want[k]);
        }
    }

    void badArgument(String what, Call call) {
        fails(what, "IllegalArgumentException", call);
    }

    void badState(String what, Call call) {
        fails(what, "IllegalStateException", call);
    }

    void noElement(String what, Call call) {
        fails(what, "NoSuchElementException", call);
    }

    private void fails(String what, String want, Call call) {
        looked++;
        String got = outcome(call);
        if (!got.equals(want)) {
            wrong++;
            System.out.println(what + ": " + got + ", due is " + want);
        }
    }

    /** What a call did, as a text: its answer, or the name of what it threw. */
    static String outcome(Call call) {
        try {
            return Long.toString(call.run());
        } catch (IllegalArgumentException e) {
            return "IllegalArgumentException";
        } catch (IllegalStateException e) {
            return "IllegalStateException";
        } catch (NoSuchElementException e) {
            return "NoSuchElementException";
        } catch (RuntimeException e) {
            return e.toString();
        }
    }

    void end() {
        System.out.println(looked + " answers looked at, " + wrong + " not as due");
        if (wrong != 0 || looked == 0) {
            System.exit(1);
        }
    }
}
