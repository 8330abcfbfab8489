/**
 * A MatrixDesk whose calls are counted. What an object answers after its 512th call is free, so a
 * test that went on behind it would ask for more than the document does: it is stopped here.
 */
final class Desk {
    static final int CALLS = 512;

    /** All matrices, and what was printed latest. */
    static final class State {
        final long[][][] matrices = new long[6][][];
        String print;
    }

    private final MatrixDesk desk = new MatrixDesk();
    private int calls;
    private State seen;
    private int seenAt;

    /** A new desk with these matrices, on which nothing was printed. */
    static Desk with(long[][]... matrices) {
        Desk x = new Desk();
        x.writeAll(matrices);
        return x;
    }

    /** A new desk on which -34 was printed, and then these matrices were written. */
    static Desk printed(long[][]... matrices) {
        Desk x = new Desk();
        x.put(5, 0, 0, -34);
        x.determinant(5);
        x.put(5, 0, 0, 0);
        x.writeAll(matrices);
        return x;
    }

    private void writeAll(long[][]... matrices) {
        for (int m = 0; m < matrices.length; m++) {
            write(m, matrices[m]);
        }
    }

    void write(int m, long[][] numbers) {
        make(m, numbers.length, numbers[0].length);
        for (int row = 0; row < numbers.length; row++) {
            for (int column = 0; column < numbers[row].length; column++) {
                if (numbers[row][column] != 0) {
                    put(m, row, column, numbers[row][column]);
                }
            }
        }
    }

    long[][] matrix(int m) {
        long[][] numbers = new long[Math.max(size(m, 0), 0)][Math.max(size(m, 1), 0)];
        for (int row = 0; row < numbers.length; row++) {
            for (int column = 0; column < numbers[row].length; column++) {
                numbers[row][column] = at(m, row, column);
            }
        }
        return numbers;
    }

    /** The whole state, which is not looked at again if no call was made since. */
    State state() {
        if (seen == null || seenAt != calls) {
            seen = new State();
            for (int m = 0; m < 6; m++) {
                seen.matrices[m] = matrix(m);
            }
            seen.print = print();
            seenAt = calls;
        }
        return seen;
    }

    /** What was printed latest. */
    String print() {
        StringBuilder text = new StringBuilder();
        int next = character(0);
        while (next != MatrixDesk.NONE) {
            text.append((char) next);
            next = character(text.length());
        }
        return text.toString();
    }

    int calls() {
        return calls;
    }

    private MatrixDesk next() {
        calls++;
        if (calls > CALLS) {
            throw new AssertionError("a test calls an object more than " + CALLS + " times");
        }
        return desk;
    }

    void make(int m, int rows, int columns) {
        next().make(m, rows, columns);
    }

    void put(int m, int row, int column, long v) {
        next().put(m, row, column, v);
    }

    long at(int m, int row, int column) {
        return next().at(m, row, column);
    }

    int size(int m, int what) {
        return next().size(m, what);
    }

    int combine(int to, int a, int x, int b, int y) {
        return next().combine(to, a, x, b, y);
    }

    int multiply(int to, int a, int b) {
        return next().multiply(to, a, b);
    }

    void turn(int to, int a) {
        next().turn(to, a);
    }

    int rank(int m) {
        return next().rank(m);
    }

    int hermite(int to, int a) {
        return next().hermite(to, a);
    }

    int kernel(int to, int a) {
        return next().kernel(to, a);
    }

    int solve(int to, int a, int b) {
        return next().solve(to, a, b);
    }

    int determinant(int m) {
        return next().determinant(m);
    }

    int divisor(int m, int k) {
        return next().divisor(m, k);
    }

    int factor(int m, int k) {
        return next().factor(m, k);
    }

    int inverse(int m, int row, int column) {
        return next().inverse(m, row, column);
    }

    int characteristic(int m, int k) {
        return next().characteristic(m, k);
    }

    int character(int i) {
        return next().character(i);
    }

    boolean same(int a, int b) {
        return next().same(a, b);
    }

    int check(int m) {
        return next().check(m);
    }
}
