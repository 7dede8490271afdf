import java.util.function.IntSupplier;

/** Counts what did not come out as due, and ends the test with exit code 1 if anything did not. */
final class Check {
    private int wrong = 0;
    private int done = 0;

    /** The sentence of the document that the checks are about, and how many there were before it. */
    private String sentence = "";
    private int doneBefore = -1;

    /** The following checks are about these words, which stand in this section of the document. */
    void sentence(String section, String words) {
        requireChecks();
        sentence = section + ", '" + words + "': ";
        doneBefore = done;
    }

    private void requireChecks() {
        if (done == doneBefore) {
            tell("no check");
        }
    }

    void same(String what, long got, long want) {
        done++;
        if (got != want) {
            tell(what + " answered " + got + ", due is " + want);
        }
    }

    void same(String what, String got, String want) {
        done++;
        if (!got.equals(want)) {
            tell(what + " answered " + got + ", due is " + want);
        }
    }

    /** The first ones are enough to see what is wrong. */
    private void tell(String fault) {
        wrong++;
        if (wrong <= 50) {
            System.out.println(sentence + fault);
        }
    }

    void yes(String what, boolean got) {
        same(what, got ? 1 : 0, 1);
    }

    void no(String what, boolean got) {
        same(what, got ? 1 : 0, 0);
    }

    /** The exception must be of this very class. */
    void refused(String what, Class<? extends RuntimeException> due, Runnable call) {
        done++;
        Class<?> thrown = null;
        try {
            call.run();
        } catch (RuntimeException e) {
            thrown = e.getClass();
        }
        if (thrown != due) {
            tell(what + " threw " + thrown + ", due is " + due);
        }
    }

    void noKey(String what, Runnable call) {
        refused(what, IllegalArgumentException.class, call);
    }

    void full(String what, Runnable call) {
        refused(what, IllegalStateException.class, call);
    }

    void noValue(String what, Runnable call) {
        refused(what, java.util.NoSuchElementException.class, call);
    }

    /** An answer, or the thrown exception's name, as a text that can be compared. */
    static String answer(IntSupplier call) {
        try {
            return Integer.toString(call.getAsInt());
        } catch (RuntimeException e) {
            return e.getClass().getSimpleName();
        }
    }

    void finish() {
        requireChecks();
        System.out.println(wrong == 0 ? done + " checks, all as due" : wrong + " of " + done + " checks are not as due");
        if (wrong != 0 || done == 0) {
            System.exit(1);
        }
    }
}
