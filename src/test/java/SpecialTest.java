import java.math.BigInteger;
import java.util.ArrayList;
import java.util.Arrays;
import java.util.List;
import java.util.function.LongSupplier;

/**
 * Every call on matrices of 0 alone, of one number, of one row, of one column, and of six rows and
 * columns with the largest numbers, beside the reference; and that nothing else changes.
 */
public final class SpecialTest {
    private static final long TOP = Samples.TOP;
    private static final int NONE = MatrixDesk.NONE;
    private static final int SHAPE = MatrixDesk.SHAPE;
    private static final int LARGE = MatrixDesk.LARGE;
    private static final Due due = new Due("SpecialTest");

    private final long[][] a;
    private final BigInteger[][] numbers;
    private final boolean square;
    private final int rank;
    private final String name;

    private SpecialTest(long[][] a) {
        this.a = a;
        numbers = Reference.of(a);
        square = a.length == a[0].length;
        rank = Reference.rank(numbers);
        name = Arrays.deepToString(a) + ": ";
    }

    public static void main(String[] args) {
        for (long[][] a : special()) {
            SpecialTest test = new SpecialTest(a);
            test.arithmetic();
            test.forms();
            test.solutions();
            test.prints();
            test.inverses();
        }
        due.end();
    }

    private static List<long[][]> special() {
        List<long[][]> all = new ArrayList<>();
        long[] numbers = {1, -1, 2, TOP, -TOP};
        Samples.eachShape((rows, columns) -> {
            all.add(new long[rows][columns]);
            all.add(Samples.one(rows, columns, rows - 1, columns - 1, -TOP));
            all.add(Samples.one(rows, columns, 0, columns - 1, 1));
        });
        for (long v : numbers) {
            all.add(new long[][] {{v}});
            for (int n = 2; n <= 6; n++) {
                all.add(Samples.all(1, n, v));
                all.add(Samples.all(n, 1, v));
                all.add(Samples.all(n, n, v));
                all.add(Samples.diagonal(n, n, n, v));
            }
        }
        for (int n = 1; n <= 6; n++) {
            all.add(Samples.large(1, n));
            all.add(Samples.large(n, 1));
            all.add(Samples.large(n, n));
            all.add(Samples.large(6, n));
            all.add(Samples.large(n, 6));
        }
        all.add(Samples.row(0, 0, 0, 0, 0, -TOP));
        all.add(Samples.row(TOP, -TOP, TOP - 1, 1 - TOP, 0, 1));
        all.add(Samples.widest(TOP));
        all.add(Samples.widest(-TOP));
        all.add(Samples.longest());
        return all;
    }

    private Desk desk() {
        return Desk.printed(a, new long[][] {{1, 2}});
    }

    /** Matrix 1 becomes the result if that fits; then the call answers so. */
    private void made(String what, Desk x, BigInteger[][] result, long answer, LongSupplier call) {
        if (Samples.fits(result)) {
            due.done(name + what, x, answer, call, 1, Samples.longs(result));
        } else {
            due.still(name + what, x, LARGE, call);
        }
    }

    private void arithmetic() {
        int[] factors = {0, 1, -1, 2, Integer.MIN_VALUE, Integer.MAX_VALUE};
        for (int f : factors) {
            for (int g : factors) {
                Desk x = desk();
                made("combine " + f + " and " + g, x, Reference.combine(numbers, f, numbers, g), 0,
                    () -> x.combine(1, 0, f, 0, g));
            }
        }
        Desk x = Desk.printed(a, a);
        x.turn(1, 1);
        made("multiply by what is turned", x, Reference.multiply(numbers, Reference.turn(numbers)), 0,
            () -> x.multiply(1, 0, 1));
        Desk y = desk();
        if (square) {
            made("multiply by itself", y, Reference.multiply(numbers, numbers), 0, () -> y.multiply(1, 0, 0));
        } else {
            due.still(name + "multiply by itself", y, SHAPE, () -> y.multiply(1, 0, 0));
        }
        Desk z = desk();
        made("turn", z, Reference.turn(numbers), 0, () -> {
            z.turn(1, 0);
            return 0;
        });
        due.still(name + "same", z, Arrays.deepEquals(a, Samples.turned(a)) ? 1 : 0, () -> z.same(0, 1) ? 1 : 0);
    }

    private void forms() {
        Desk x = desk();
        due.still(name + "rank", x, rank, () -> x.rank(0));
        due.still(name + "check", x, 1, () -> x.check(0));
        made("hermite", x, Reference.hermite(numbers), rank, () -> x.hermite(1, 0));
        Desk y = desk();
        int count = a[0].length - rank;
        if (count == 0) {
            due.still(name + "kernel", y, 0, () -> y.kernel(1, 0));
        } else {
            made("kernel", y, Reference.kernel(numbers), count, () -> y.kernel(1, 0));
        }
    }

    private void solutions() {
        long[][] first = new long[a.length][1];
        for (int i = 0; i < a.length; i++) {
            first[i][0] = a[i][0];
        }
        solution(new long[a.length][1]);
        solution(first);
        solution(Samples.times(first, -1));
        solution(Samples.all(a.length, 1, TOP));
        solution(Samples.all(a.length, 1, -1));
        solution(Samples.one(a.length, 1, a.length - 1, 0, 1));
        Desk x = Desk.printed(a, new long[a.length % 6 + 1][1]);
        due.still(name + "solve, one row more or one row", x, SHAPE, () -> x.solve(2, 0, 1));
        Desk y = Desk.printed(a, new long[a.length][2]);
        due.still(name + "solve, two columns", y, SHAPE, () -> y.solve(2, 0, 1));
    }

    private void solution(long[][] b) {
        Desk x = Desk.printed(a, b);
        BigInteger[][] found = Reference.solve(numbers, Reference.of(b));
        String what = "solve " + Arrays.deepToString(b);
        if (found == null) {
            due.still(name + what, x, 0, () -> x.solve(1, 0, 1));
        } else {
            made(what, x, found, 1, () -> x.solve(1, 0, 1));
        }
    }

    /** The text is printed, or, if there is none, the call is refused. */
    private void printed(String what, Desk x, LongSupplier call, String text, int refused) {
        if (text != null) {
            due.prints(name + what, x, call, text);
        } else {
            due.still(name + what, x, refused, call);
        }
    }

    private void prints() {
        Desk x = desk();
        printed("determinant", x, () -> x.determinant(0), square ? Reference.determinant(numbers).toString() : null,
            SHAPE);
        int least = Math.min(a.length, a[0].length);
        for (int i = -1; i <= 7; i++) {
            int k = i;
            Desk y = desk();
            boolean minors = k >= 1 && k <= least;
            printed("divisor " + k, y, () -> y.divisor(0, k), minors ? Reference.divisor(numbers, k).toString() : null,
                NONE);
            Desk z = desk();
            boolean within = k >= 1 && k <= rank;
            String factor = within ? Reference.factors(numbers)[k - 1].toString() : null;
            printed("factor " + k, z, () -> z.factor(0, k), factor, NONE);
            Desk w = desk();
            boolean power = square && k >= 0 && k <= a.length;
            String c = power ? Reference.characteristic(numbers)[k].toString() : null;
            printed("characteristic " + k, w, () -> w.characteristic(0, k), c, square ? NONE : SHAPE);
        }
    }

    private void inverses() {
        boolean has = square && rank == a.length;
        for (int row = -1; row <= a.length; row++) {
            for (int column = -1; column <= a[0].length; column++) {
                boolean there = row >= 0 && column >= 0 && row < a.length && column < a[0].length;
                if (!there && !square) {
                    continue;
                }
                int i = row;
                int j = column;
                Desk x = desk();
                printed("inverse, row " + row + ", column " + column, x, () -> x.inverse(0, i, j),
                    has && there ? Reference.inverse(numbers, row, column) : null, square ? NONE : SHAPE);
            }
        }
    }
}
