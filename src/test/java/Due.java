import java.util.Arrays;

/** Counts and prints what is not as it is due, for one test class. */
final class Due {
    private final String test;
    private int wrong;

    Due(String test) {
        this.test = test;
    }

    void number(String what, long got, long want) {
        if (got != want) {
            tell(what, String.valueOf(got), String.valueOf(want));
        }
    }

    void truth(String what, boolean got) {
        if (!got) {
            tell(what, "false", "true");
        }
    }

    void text(String what, String got, String want) {
        if (!got.equals(want)) {
            tell(what, got, want);
        }
    }

    /** What was printed latest, the call that printed it having answered count. */
    void printed(String what, MatrixDesk x, int count, String want) {
        StringBuilder got = new StringBuilder();
        for (int i = 0; i < 1000 && x.character(i) != MatrixDesk.NONE; i++) {
            got.append((char) x.character(i));
        }
        text(what, got.toString(), want);
        number(what + ": characters", count, want.length());
    }

    void matrix(String what, MatrixDesk x, int m, long[][] want) {
        text(what, Arrays.deepToString(read(x, m)), Arrays.deepToString(want));
    }

    void throwing(String what, Class<? extends RuntimeException> want, Runnable call) {
        String got = "nothing";
        try {
            call.run();
        } catch (RuntimeException e) {
            got = e.getClass().getName();
        }
        text(what + " throws", got, want.getName());
    }

    static long[][] read(MatrixDesk x, int m) {
        long[][] numbers = new long[x.size(m, 0)][x.size(m, 1)];
        for (int row = 0; row < numbers.length; row++) {
            for (int column = 0; column < numbers[row].length; column++) {
                numbers[row][column] = x.at(m, row, column);
            }
        }
        return numbers;
    }

    static void write(MatrixDesk x, int m, long[][] numbers) {
        x.make(m, numbers.length, numbers[0].length);
        for (int row = 0; row < numbers.length; row++) {
            for (int column = 0; column < numbers[row].length; column++) {
                x.put(m, row, column, numbers[row][column]);
            }
        }
    }

    /** Tells how the test ended, and ends with exit code 1 if something was wrong. */
    void end() {
        System.out.println(test + ": " + (wrong == 0 ? "all as due" : wrong + " not as due"));
        if (wrong != 0) {
            System.exit(1);
        }
    }

    private void tell(String what, String got, String want) {
        wrong++;
        if (wrong <= 50) {
            System.out.println(test + ": " + what + " answered " + got + ", due is " + want);
        }
    }
}
