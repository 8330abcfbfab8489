import java.util.Arrays;
import java.util.function.LongSupplier;

/** Counts and prints what is not as it is due, for one test class. */
final class Due {
    static final Class<IndexOutOfBoundsException> INDEX = IndexOutOfBoundsException.class;
    static final Class<IllegalArgumentException> ARGUMENT = IllegalArgumentException.class;

    private static final int MOST = 20;

    private final String test;
    private String about = "";
    private int told;
    private int wrong;

    Due(String test) {
        this.test = test;
    }

    /** What stands before all that is told from now on; of each not more than some lines are told. */
    void about(String words) {
        about = words;
        told = 0;
    }

    void number(String what, long got, long want) {
        if (got != want) {
            tell(what, String.valueOf(got), String.valueOf(want));
        }
    }

    void truth(String what, boolean got) {
        if (!got) {
            tell(what, "false", "true");
        }
    }

    void text(String what, String got, String want) {
        if (!got.equals(want)) {
            tell(what, got, want);
        }
    }

    /** What was printed latest, the call that printed it having answered count. */
    void printed(String what, Desk x, int count, String want) {
        text(what, x.print(), want);
        number(what + ": characters", count, want.length());
    }

    void matrix(String what, Desk x, int m, long[][] want) {
        text(what, Arrays.deepToString(x.matrix(m)), Arrays.deepToString(want));
    }

    /** The call answers so, matrix `to` becomes the result, and nothing else changes. */
    void done(String what, Desk x, long want, LongSupplier call, int to, long[][] result) {
        Desk.State before = x.state();
        text(what, answer(call), String.valueOf(want));
        long[][][] all = before.matrices.clone();
        all[to] = result;
        state(what, x, all, before.print);
    }

    /** The call answers so, and nothing changes: no matrix, and nothing of what was printed. */
    void still(String what, Desk x, long want, LongSupplier call) {
        stillAnswers(what, x, String.valueOf(want), call);
    }

    /** The call throws just that. */
    void throwing(String what, Class<? extends RuntimeException> want, Runnable call) {
        text(what, answer(asked(call)), thrown(want));
    }

    /** The call throws just that, and nothing changes: no matrix, and nothing of what was printed. */
    void throwing(String what, Desk x, Class<? extends RuntimeException> want, Runnable call) {
        stillAnswers(what, x, thrown(want), asked(call));
    }

    /** The call prints the text and tells its length, and no matrix changes. */
    void prints(String what, Desk x, LongSupplier call, String text) {
        Desk.State before = x.state();
        text(what, answer(call), String.valueOf(text.length()));
        state(what, x, before.matrices, text);
    }

    private void stillAnswers(String what, Desk x, String want, LongSupplier call) {
        Desk.State before = x.state();
        text(what, answer(call), want);
        state(what, x, before.matrices, before.print);
    }

    private static LongSupplier asked(Runnable call) {
        return () -> {
            call.run();
            return 0;
        };
    }

    private static String answer(LongSupplier call) {
        try {
            return String.valueOf(call.getAsLong());
        } catch (RuntimeException e) {
            return thrown(e.getClass());
        }
    }

    private static String thrown(Class<? extends RuntimeException> kind) {
        return "throws." + kind.getSimpleName();
    }

    private void state(String what, Desk x, long[][][] matrices, String print) {
        Desk.State after = x.state();
        for (int m = 0; m < matrices.length; m++) {
            if (!Arrays.deepEquals(after.matrices[m], matrices[m])) {
                tell(what + ", then matrix " + m, Arrays.deepToString(after.matrices[m]),
                    Arrays.deepToString(matrices[m]));
            }
        }
        text(what + ", then what was printed", after.print, print);
    }

    /** Tells how the test ended, and ends with exit code 1 if something was wrong. */
    void end() {
        System.out.println(test + ": " + (wrong == 0 ? "all as due" : wrong + " not as due"));
        if (wrong != 0) {
            System.exit(1);
        }
    }

    private void tell(String what, String got, String want) {
        wrong++;
        told++;
        if (told <= MOST) {
            System.out.println(test + ": " + about + what + " answered " + got + ", due is " + want);
        }
    }
}
