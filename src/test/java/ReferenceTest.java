import java.math.BigInteger;
import java.util.Arrays;
import java.util.Random;

/** Runs of calls, each answer, and the whole state in the end, beside a reference over BigInteger. */
public final class ReferenceTest {
    private static final long TOP = Samples.TOP;
    private static final int RUNS = 15000;
    /** The most that filling a matrix, asking for an answer and looking at that take. */
    private static final int STEP = 290;
    private static final Due due = new Due("ReferenceTest");

    private final Random random;
    private final Desk desk = new Desk();
    private final BigInteger[][][] state = new BigInteger[6][][];
    private final String run;
    /** Small matrices take few calls, so that some runs have many steps. */
    private final int most;
    private String printed = "";

    private ReferenceTest(int seed) {
        random = new Random(seed);
        run = "run " + seed + ": ";
        most = Math.max(2 + random.nextInt(5), 2 + random.nextInt(5));
        Arrays.fill(state, Reference.zero(1, 1));
    }

    public static void main(String[] args) {
        for (int seed = 1; seed <= RUNS; seed++) {
            new ReferenceTest(seed).go();
        }
        due.end();
    }

    private void go() {
        String what = run;
        for (int step = 0; desk.calls() + look() + STEP <= Desk.CALLS; step++) {
            int kind = random.nextInt(19);
            what = run + "step " + step + " of kind " + kind;
            int to = random.nextInt(6);
            int a = random.nextInt(6);
            int b = random.nextInt(6);
            if (kind < 4) {
                fill(to);
            } else if (kind < 11) {
                change(what, kind, to, a, b);
            } else {
                tell(what, kind, a, b);
            }
        }
        compare(what);
    }

    /** How many calls it takes to look at the whole state. */
    private int look() {
        int calls = printed.length() + 1;
        for (BigInteger[][] matrix : state) {
            calls += 2 + matrix.length * matrix[0].length;
        }
        return calls;
    }

    private void fill(int m) {
        int rows = 1 + random.nextInt(most);
        int columns = random.nextInt(2) == 0 ? rows : 1 + random.nextInt(most);
        long[][] numbers = new long[rows][columns];
        int style = random.nextInt(8);
        for (int i = 0; i < rows; i++) {
            for (int j = 0; j < columns; j++) {
                numbers[i][j] = number(style);
            }
        }
        if (random.nextInt(3) == 0) {
            repeatRows(numbers);
        }
        desk.write(m, numbers);
        state[m] = Reference.of(numbers);
    }

    private long number(int style) {
        switch (style) {
            case 0:
                return random.nextInt(3) - 1;
            case 1:
                return random.nextInt(21) - 10;
            case 2:
                return random.nextInt();
            case 3:
                return random.nextLong() % (TOP + 1);
            case 4:
                return random.nextBoolean() ? TOP - random.nextInt(3) : random.nextInt(3) - TOP;
            case 5:
                return (1L << random.nextInt(59)) * (random.nextBoolean() ? 1 : -1);
            case 6:
                return random.nextInt(3) == 0 ? random.nextLong() % (TOP + 1) : 0;
            default:
                return 999999999L * random.nextInt(1000) + random.nextInt(2);
        }
    }

    /** Makes a row of halves of others, so that ranks fall and factors rise. */
    private void repeatRows(long[][] numbers) {
        int to = random.nextInt(numbers.length);
        int from = random.nextInt(numbers.length);
        int other = random.nextInt(numbers.length);
        for (int j = 0; j < numbers[0].length; j++) {
            long x = numbers[from][j] / 2;
            long y = numbers[other][j] / 2;
            numbers[from][j] = 2 * x;
            numbers[other][j] = 2 * y;
            numbers[to][j] = x - y;
        }
    }

    private void change(String what, int kind, int to, int a, int b) {
        switch (kind) {
            case 4:
                combine(what, to, a, b);
                return;
            case 5:
                multiply(what, to, a, b);
                return;
            case 6:
                desk.turn(to, a);
                state[to] = Reference.turn(state[a]);
                return;
            case 7:
                hermite(what, to, a);
                return;
            case 8:
                kernel(what, to, a);
                return;
            default:
                solve(what, to, a, b);
        }
    }

    private void combine(String what, int to, int a, int b) {
        int x = random.nextInt(3) == 0 ? random.nextInt() : random.nextInt(5) - 2;
        int y = random.nextInt(3) == 0 ? random.nextInt() : random.nextInt(5) - 2;
        int got = desk.combine(to, a, x, b, y);
        if (state[a].length != state[b].length || state[a][0].length != state[b][0].length) {
            due.number(what, got, MatrixDesk.SHAPE);
        } else {
            keep(what, to, Reference.combine(state[a], x, state[b], y), got, 0);
        }
    }

    private void multiply(String what, int to, int a, int b) {
        int got = desk.multiply(to, a, b);
        if (state[a][0].length != state[b].length) {
            due.number(what, got, MatrixDesk.SHAPE);
        } else {
            keep(what, to, Reference.multiply(state[a], state[b]), got, 0);
        }
    }

    private void hermite(String what, int to, int a) {
        keep(what, to, Reference.hermite(state[a]), desk.hermite(to, a), Reference.rank(state[a]));
    }

    private void kernel(String what, int to, int a) {
        BigInteger[][] basis = Reference.kernel(state[a]);
        int got = desk.kernel(to, a);
        if (basis.length == 0) {
            due.number(what, got, 0);
            return;
        }
        BigInteger[][] zero = Reference.multiply(state[a], Reference.turn(basis));
        due.truth(what + ": gives 0", Arrays.deepEquals(zero, Reference.zero(zero.length, zero[0].length)));
        due.truth(what + ": gives all", Reference.divisor(basis, basis.length).equals(BigInteger.ONE));
        keep(what, to, basis, got, basis.length);
    }

    private void solve(String what, int to, int a, int b) {
        if (random.nextInt(4) != 0) {
            wantSolution(a, b);
        }
        int got = desk.solve(to, a, b);
        if (state[b][0].length != 1 || state[b].length != state[a].length) {
            due.number(what, got, MatrixDesk.SHAPE);
            return;
        }
        BigInteger[][] x = Reference.solve(state[a], state[b]);
        if (x == null) {
            due.number(what, got, 0);
            return;
        }
        due.truth(what + ": solves", Arrays.deepEquals(Reference.multiply(state[a], x), state[b]));
        keep(what, to, x, got, 1);
    }

    /** Makes matrix b a column that matrix a gives, if that is small enough, or any column. */
    private void wantSolution(int a, int b) {
        BigInteger[][] x = Reference.zero(state[a][0].length, 1);
        for (BigInteger[] row : x) {
            row[0] = BigInteger.valueOf(random.nextInt(4) == 0 ? random.nextInt() : random.nextInt(5) - 2);
        }
        BigInteger[][] column = Reference.multiply(state[a], x);
        if (a == b || !Samples.fits(column)) {
            return;
        }
        if (random.nextInt(4) == 0) {
            column[random.nextInt(column.length)][0] = BigInteger.valueOf(random.nextInt(9) - 4);
        }
        state[b] = column;
        desk.write(b, Samples.longs(column));
    }

    private void tell(String what, int kind, int m, int other) {
        BigInteger[][] a = state[m];
        boolean square = a.length == a[0].length;
        int k = random.nextInt(9) - 1;
        int row = random.nextInt(8) - 1;
        switch (kind) {
            case 11:
                due.number(what, desk.rank(m), Reference.rank(a));
                return;
            case 12:
                print(what, desk.determinant(m), square ? 0 : MatrixDesk.SHAPE,
                    square ? Reference.determinant(a).toString() : "");
                return;
            case 13:
                boolean minors = k >= 1 && k <= Math.min(a.length, a[0].length);
                print(what, desk.divisor(m, k), minors ? 0 : MatrixDesk.NONE,
                    minors ? Reference.divisor(a, k).toString() : "");
                return;
            case 14:
                boolean within = k >= 1 && k <= Reference.rank(a);
                print(what, desk.factor(m, k), within ? 0 : MatrixDesk.NONE,
                    within ? Reference.factors(a)[k - 1].toString() : "");
                return;
            case 15:
                inverse(what, m, row, k);
                return;
            case 16:
                boolean there = square && k >= 0 && k <= a.length;
                print(what, desk.characteristic(m, k),
                    there ? 0 : square ? MatrixDesk.NONE : MatrixDesk.SHAPE,
                    there ? Reference.characteristic(a)[k].toString() : "");
                return;
            case 17:
                due.number(what, desk.check(m), 1);
                return;
            default:
                due.truth(what, desk.same(m, other) == Arrays.deepEquals(a, state[other]));
        }
    }

    private void inverse(String what, int m, int row, int column) {
        BigInteger[][] a = state[m];
        int n = a.length;
        int got = desk.inverse(m, row, column);
        if (n != a[0].length) {
            print(what, got, MatrixDesk.SHAPE, "");
        } else if (row < 0 || row >= n || column < 0 || column >= n || Reference.determinant(a).signum() == 0) {
            print(what, got, MatrixDesk.NONE, "");
        } else {
            print(what, got, 0, Reference.inverse(a, row, column));
        }
    }

    /** If refused is 0, the text is due, else that answer and what was printed before. */
    private void print(String what, int got, int refused, String text) {
        if (refused == 0) {
            printed = text;
            due.number(what, got, text.length());
        } else {
            due.number(what, got, refused);
        }
    }

    private void keep(String what, int to, BigInteger[][] result, int got, int want) {
        if (Samples.fits(result)) {
            due.number(what, got, want);
            state[to] = result;
        } else {
            due.number(what, got, MatrixDesk.LARGE);
        }
    }

    private void compare(String what) {
        for (int m = 0; m < 6; m++) {
            due.matrix(what + ": matrix " + m, desk, m, Samples.longs(state[m]));
        }
        due.printed(what + ": print", desk, printed.length(), printed);
    }
}
