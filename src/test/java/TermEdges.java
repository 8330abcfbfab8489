import java.math.BigInteger;
import java.util.function.ToLongFunction;

/** The edges that the document's terms name for several promises at once: matrices, their numbers, what is refused. */
final class TermEdges {
    private static final long TOP = Samples.TOP;
    private static final long ROOT = Samples.ROOT;
    private static final int SHAPE = MatrixDesk.SHAPE;
    private static final int LARGE = MatrixDesk.LARGE;

    private final Edges edges;
    private final Due due;

    TermEdges(Edges edges) {
        this.edges = edges;
        due = edges.due;
    }

    void run() {
        edges.terms("There are 6 MATRICES, numbered from 0", this::sixMatrices);
        edges.terms("each with 1 to 6 rows and 1 to 6 columns", this::oneToSix);
        edges.terms("their numbers are of a size below 10^18", this::sizeOfNumbers);
        edges.terms("At first each is one row and column with 0", this::atFirst);
        edges.terms("What has one number of rows and another one of columns than wanted is refused as SHAPE",
            this::shape);
        edges.terms("a result with a number of 10^18 or more in size as LARGE", this::large);
        edges.terms("then nothing changes", this::refusedChangesNothing);
        edges.terms("A result may take the place of what it is made of", this::ownPlace);
        edges.terms("What throws changes nothing", this::throwsChangesNothing);
        edges.terms("The constants: `NONE = -1`: There is none", () -> due.number("NONE", MatrixDesk.NONE, -1));
        edges.terms("`SHAPE = -2`: Rows or columns do not go together",
            () -> due.number("SHAPE", MatrixDesk.SHAPE, -2));
        edges.terms("`LARGE = -3`: A number of the result would be too large",
            () -> due.number("LARGE", MatrixDesk.LARGE, -3));
    }

    private void sixMatrices() {
        long[][][] six = new long[6][][];
        Desk x = new Desk();
        for (int m = 0; m < 6; m++) {
            six[m] = Samples.times(Samples.numbered(m + 1, 6 - m), m + 1);
            x.write(m, six[m]);
        }
        for (int m = 0; m < 6; m++) {
            due.matrix("matrix " + m + " is one of its own", x, m, six[m]);
            due.number("rows of matrix " + m, x.size(m, 0), m + 1);
        }
        for (Calls call : Calls.naming()) {
            for (int m = 0; m < 6; m++) {
                due.truth(call.with(m) + " is not refused", call.on(Calls.twos(), m) >= 0);
            }
            for (int m : Samples.beyond(0, 5)) {
                Desk y = Calls.twos();
                due.throwing(call.with(m), y, Due.INDEX, () -> call.on(y, m));
            }
        }
        for (int m : Samples.beyond(0, 5)) {
            Desk y = Calls.twos();
            due.still("size(" + m + ", 0)", y, MatrixDesk.NONE, () -> y.size(m, 0));
        }
    }

    private void oneToSix() {
        Samples.eachShape((rows, columns) -> {
            String what = Samples.sides(rows, columns);
            long[][] numbers = Samples.numbered(rows, columns);
            Desk x = Desk.with(numbers);
            due.matrix(what, x, 0, numbers);
            due.throwing(what + ", row behind the last", Due.INDEX, () -> x.at(0, rows, 0));
            due.throwing(what + ", column behind the last", Due.INDEX, () -> x.at(0, 0, columns));
        });
        for (int wrong : Samples.beyond(1, 6)) {
            for (int right = 1; right <= 6; right++) {
                int other = right;
                Desk x = Desk.printed(Samples.numbered(2, 3));
                due.throwing("rows " + wrong, x, Due.ARGUMENT, () -> x.make(0, wrong, other));
                due.throwing("columns " + wrong, x, Due.ARGUMENT, () -> x.make(0, other, wrong));
            }
        }
    }

    private void sizeOfNumbers() {
        for (int sign : Samples.SIGNS) {
            Desk x = Desk.printed(new long[2][2]);
            due.done("the largest", x, 0, () -> put(x, 1, 1, sign * TOP), 0, new long[][] {{0, 0}, {0, sign * TOP}});
            due.throwing("one more", x, Due.ARGUMENT, () -> x.put(0, 1, 1, sign * (TOP + 1)));
            due.throwing("two more", x, Due.ARGUMENT, () -> x.put(0, 0, 0, sign * (TOP + 2)));
        }
        Desk y = Desk.printed(new long[2][2]);
        due.throwing("the greatest long", y, Due.ARGUMENT, () -> y.put(0, 0, 0, Long.MAX_VALUE));
        due.throwing("the least long", y, Due.ARGUMENT, () -> y.put(0, 0, 0, Long.MIN_VALUE));
        due.throwing("the least long but one", y, Due.ARGUMENT, () -> y.put(0, 0, 0, Long.MIN_VALUE + 1));
    }

    private static long put(Desk x, int row, int column, long v) {
        x.put(0, row, column, v);
        return 0;
    }

    private void atFirst() {
        Desk x = new Desk();
        for (int m = 0; m < 6; m++) {
            due.number("rows", x.size(m, 0), 1);
            due.number("columns", x.size(m, 1), 1);
            due.number("its number", x.at(m, 0, 0), 0);
            int matrix = m;
            due.throwing("a second row", Due.INDEX, () -> x.at(matrix, 1, 0));
            due.throwing("a second column", Due.INDEX, () -> x.at(matrix, 0, 1));
        }
    }

    /** Every shape beside every other one. */
    private void shape() {
        Samples.eachShape((rows, columns) -> {
            long[][] a = Samples.numbered(rows, columns);
            Samples.eachShape((otherRows, otherColumns) -> together(a, Samples.numbered(otherRows, otherColumns)));
            if (rows != columns) {
                notSquare(Samples.sides(rows, columns), a);
            }
        });
    }

    private void together(long[][] a, long[][] b) {
        boolean alike = a.length == b.length && a[0].length == b[0].length;
        boolean chained = a[0].length == b.length;
        boolean oneColumn = b[0].length == 1 && b.length == a.length;
        refusedUnless(alike, "combine", a, b, x -> x.combine(2, 0, 1, 1, 1));
        refusedUnless(alike, "combine, factors 0", a, b, x -> x.combine(2, 0, 0, 1, 0));
        refusedUnless(chained, "multiply", a, b, x -> x.multiply(2, 0, 1));
        refusedUnless(oneColumn, "solve", a, b, x -> x.solve(2, 0, 1));
    }

    private void refusedUnless(boolean wanted, String call, long[][] a, long[][] b, ToLongFunction<Desk> asked) {
        String first = Samples.sides(a.length, a[0].length);
        String what = call + ", " + first + " and " + Samples.sides(b.length, b[0].length);
        Desk x = Desk.printed(a, b, new long[][] {{5, 6}});
        if (wanted) {
            due.truth(what + ", is not refused", asked.applyAsLong(x) >= 0);
        } else {
            due.still(what, x, SHAPE, () -> asked.applyAsLong(x));
        }
    }

    private void notSquare(String what, long[][] numbers) {
        Desk x = Desk.printed(numbers);
        due.still("determinant, " + what, x, SHAPE, () -> x.determinant(0));
        due.still("inverse, " + what, x, SHAPE, () -> x.inverse(0, 0, 0));
        due.still("characteristic, " + what, x, SHAPE, () -> x.characteristic(0, 0));
    }

    private void large() {
        for (int sign : Samples.SIGNS) {
            for (int row = 0; row < 6; row++) {
                for (int column = 0; column < 6; column++) {
                    largeSum(row, column, sign);
                    largeProducts(row, column, sign);
                    largeForm(row, column);
                    largeSolution(row, column, sign);
                }
            }
            largeBehindLeads(sign);
            for (int row = 1; row < 5; row++) {
                largeKernel(row, sign);
            }
        }
    }

    private void largeSum(int row, int column, int sign) {
        String what = "sum, row " + row + ", column " + column + ", sign " + sign;
        Desk x = Desk.printed(Samples.one(6, 6, row, column, TOP), Samples.one(6, 6, row, column, 1));
        due.still(what + ", 10^18", x, LARGE, () -> x.combine(2, 0, sign, 1, sign));
        Desk y = Desk.printed(Samples.one(6, 6, row, column, TOP - 1), Samples.one(6, 6, row, column, 1));
        due.done(what + ", one less", y, 0, () -> y.combine(2, 0, sign, 1, sign), 2,
            Samples.one(6, 6, row, column, sign * TOP));
    }

    /** A product of two numbers, at each place inside the row and the column. */
    private void largeProducts(int row, int column, int sign) {
        for (int i = 0; i < 6; i++) {
            String what = "product, row " + row + ", column " + column + ", by " + i + ", sign " + sign;
            Desk x = Desk.printed(Samples.one(6, 6, row, i, ROOT), Samples.one(6, 6, i, column, sign * ROOT));
            due.still(what + ", 10^18", x, LARGE, () -> x.multiply(2, 0, 1));
            Desk y = Desk.printed(Samples.one(6, 6, row, i, ROOT - 1), Samples.one(6, 6, i, column, sign * (ROOT + 1)));
            due.done(what + ", one less", y, 0, () -> y.multiply(2, 0, 1), 2,
                Samples.one(6, 6, row, column, sign * TOP));
        }
    }

    /** A lead of just 10^18, or one less, in the row; the column before it has the other number of the block. */
    private void largeForm(int row, int column) {
        if (column >= row) {
            return;
        }
        String what = "form, lead " + row + ", beside " + column;
        long[][] a = Samples.diagonal(6, 6, 6, 1);
        a[column][column] = ROOT + 1;
        a[column][row] = 1;
        a[row][column] = ROOT;
        a[row][row] = ROOT;
        Desk x = Desk.printed(a);
        due.still(what + ", 10^18", x, LARGE, () -> x.hermite(1, 0));
        a[column][row] = 0;
        a[row][row] = ROOT - 1;
        long[][] form = Samples.diagonal(6, 6, 6, 1);
        form[column][row] = TOP + 1 - ROOT;
        form[row][row] = TOP;
        Desk y = Desk.printed(a);
        due.done(what + ", one less", y, 6, () -> y.hermite(1, 0), 1, form);
    }

    private void largeBehindLeads(int sign) {
        Desk x = Desk.printed(new long[][] {{1, 1, -sign}, {0, 1, sign * TOP}});
        due.still("form, behind leads, 10^18 of sign " + -sign, x, LARGE, () -> x.hermite(1, 0));
        Desk y = Desk.printed(new long[][] {{1, 1, 0}, {0, 1, sign * TOP}});
        due.done("form, behind leads, one less", y, 2, () -> y.hermite(1, 0), 1,
            new long[][] {{1, 0, -sign * TOP}, {0, 1, sign * TOP}});
    }

    /** Each number of the kernel is the one before, times a number: just 10^18 from one place on, or one less. */
    private void largeKernel(int row, int sign) {
        String what = "kernel, place " + (row + 1) + ", sign " + sign;
        long[][] a = new long[5][6];
        long[][] basis = new long[1][6];
        for (int i = 0; i < 5; i++) {
            a[i][i] = i == row - 1 ? ROOT : i == row ? -sign * ROOT : -1;
            a[i][i + 1] = 1;
        }
        Desk x = Desk.printed(a);
        due.still(what + ", 10^18", x, LARGE, () -> x.kernel(1, 0));
        a[row - 1][row - 1] = ROOT - 1;
        a[row][row] = -sign * (ROOT + 1);
        basis[0][0] = 1;
        for (int i = 0; i < 5; i++) {
            basis[0][i + 1] = -a[i][i] * basis[0][i];
        }
        due.number(what + ", the edge of the test", Math.abs(basis[0][5]), TOP);
        Desk y = Desk.printed(a);
        due.done(what + ", one less", y, 1, () -> y.kernel(1, 0), 1, basis);
    }

    private void largeSolution(int row, int column, int sign) {
        if (row == column) {
            return;
        }
        String what = "solution, row " + row + ", by " + column + ", sign " + sign;
        long[][] a = Samples.diagonal(6, 6, 6, 1);
        a[row][column] = -sign * TOP;
        long[][] b = new long[6][1];
        b[column][0] = 1;
        b[row][0] = sign;
        Desk x = Desk.printed(a, b);
        due.still(what + ", 10^18", x, LARGE, () -> x.solve(2, 0, 1));
        b[row][0] = 0;
        long[][] solution = new long[6][1];
        solution[column][0] = 1;
        solution[row][0] = sign * TOP;
        Desk y = Desk.printed(a, b);
        due.done(what + ", one less", y, 1, () -> y.solve(2, 0, 1), 2, solution);
    }

    /** The last number alone is too large, so that all others could have been written before it is seen. */
    private void refusedChangesNothing() {
        long[][] a = Samples.numbered(6, 6);
        a[5][5] = TOP;
        long[][] b = Samples.diagonal(6, 6, 6, 1);
        b[5][5] = 2;
        int[] targets = {0, 1, 2, 5};
        for (int to : targets) {
            Desk x = Desk.printed(a, b, Samples.numbered(2, 3));
            due.still("sum, to " + to, x, LARGE, () -> x.combine(to, 0, 1, 1, 1));
            Desk y = Desk.printed(a, b, Samples.numbered(2, 3));
            due.still("product, to " + to, y, LARGE, () -> y.multiply(to, 0, 1));
            Desk z = Desk.printed(Samples.numbered(2, 3), Samples.numbered(3, 2), Samples.numbered(6, 1));
            due.still("sum, shape, to " + to, z, SHAPE, () -> z.combine(to, 0, 1, 1, 1));
            due.still("product, shape, to " + to, z, SHAPE, () -> z.multiply(to, 0, 2));
            due.still("solution, shape, to " + to, z, SHAPE, () -> z.solve(to, 0, 2));
        }
        largeAtTheEnd(targets);
    }

    private void largeAtTheEnd(int[] targets) {
        long[][] form = {{1, 0, 0}, {0, ROOT + 1, 1}, {0, ROOT, ROOT}};
        long[][] chain = {{ROOT, 1, 0}, {0, ROOT, 1}};
        long[][] steps = {{1, 0, 0}, {0, 1, 0}, {TOP, 0, 1}};
        long[][] wanted = {{1}, {2}, {-1}};
        for (int to : targets) {
            Desk x = Desk.printed(form, Samples.numbered(2, 3), Samples.numbered(3, 2));
            due.still("form, to " + to, x, LARGE, () -> x.hermite(to, 0));
            Desk y = Desk.printed(chain, Samples.numbered(2, 3), Samples.numbered(3, 2));
            due.still("kernel, to " + to, y, LARGE, () -> y.kernel(to, 0));
            Desk z = Desk.printed(steps, wanted, Samples.numbered(3, 2));
            due.still("solution, to " + to, z, LARGE, () -> z.solve(to, 0, 1));
        }
    }

    private void ownPlace() {
        ownPlaceOfSums();
        ownPlaceOfProducts();
        ownPlaceOfForms();
        ownPlaceOfSolutions();
        ownPlaceRefused();
    }

    private void ownPlaceOfSums() {
        long[][] a = {{1, -2, 3}, {4, 5, TOP}};
        long[][] b = {{10, 20, 30}, {-40, 50, -TOP}};
        long[][] sum = {{12, 16, 36}, {-32, 60, TOP}};
        int[] both = {0, 1};
        for (int to : both) {
            Desk x = Desk.printed(a, b);
            due.done("sum in the place of " + to, x, 0, () -> x.combine(to, 0, 2, 1, 1), to, sum);
        }
        Desk y = Desk.printed(a, b);
        due.done("sum of itself", y, 0, () -> y.combine(0, 0, 3, 0, -2), 0, a);
        Desk z = Desk.printed(a, b);
        due.done("sum of the other alone", z, 0, () -> z.combine(0, 1, 3, 1, -2), 0, b);
    }

    private void ownPlaceOfProducts() {
        long[][] a = {{1, 2, 3}, {4, 5, 6}, {7, 8, -9}};
        long[][] b = {{0, 1, 0}, {0, 0, 1}, {1, 0, 2}};
        long[][] product = {{3, 1, 8}, {6, 4, 17}, {-9, 7, -10}};
        int[] both = {0, 1};
        for (int to : both) {
            Desk x = Desk.printed(a, b);
            due.done("product in the place of " + to, x, 0, () -> x.multiply(to, 0, 1), to, product);
        }
        Desk y = Desk.printed(a);
        due.done("product of itself", y, 0, () -> y.multiply(0, 0, 0), 0,
            new long[][] {{30, 36, -12}, {66, 81, -12}, {-24, -18, 150}});
        Desk z = Desk.printed(new long[][] {{1, 2, 3}}, new long[][] {{4}, {5}, {6}});
        due.done("a row in the place of the column", z, 0, () -> z.multiply(1, 1, 0), 1,
            new long[][] {{4, 8, 12}, {5, 10, 15}, {6, 12, 18}});
        Desk w = Desk.printed(new long[][] {{1, 2, 3}}, new long[][] {{4}, {5}, {6}});
        due.done("one number in the place of the row", w, 0, () -> w.multiply(0, 0, 1), 0, new long[][] {{32}});
    }

    private void ownPlaceOfForms() {
        Samples.eachShape((rows, columns) -> {
            long[][] a = Samples.numbered(rows, columns);
            BigInteger[][] numbers = Reference.of(a);
            String what = Samples.sides(rows, columns);
            Desk x = Desk.printed(a);
            due.done("turned, " + what, x, 0, () -> turn(x), 0, Samples.turned(a));
            Desk y = Desk.printed(a);
            int rank = Reference.rank(numbers);
            due.done("form, " + what, y, rank, () -> y.hermite(0, 0), 0, Samples.longs(Reference.hermite(numbers)));
            Desk z = Desk.printed(a);
            long[][] kernel = rank == columns ? a : Samples.longs(Reference.kernel(numbers));
            due.done("kernel, " + what, z, columns - rank, () -> z.kernel(0, 0), 0, kernel);
        });
    }

    private static long turn(Desk x) {
        x.turn(0, 0);
        return 0;
    }

    private void ownPlaceOfSolutions() {
        long[][] a = {{6, 10, 15}, {0, 1, 1}};
        long[][] b = {{1}, {0}};
        long[][] solution = Samples.longs(Reference.solve(Reference.of(a), Reference.of(b)));
        int[] both = {0, 1};
        for (int to : both) {
            Desk x = Desk.printed(a, b);
            due.done("solution in the place of " + to, x, 1, () -> x.solve(to, 0, 1), to, solution);
        }
        Desk y = Desk.printed(new long[][] {{-3}, {7}});
        due.done("a column by itself", y, 1, () -> y.solve(0, 0, 0), 0, new long[][] {{1}});
        Desk z = Desk.printed(new long[][] {{0}, {0}});
        due.done("a column of 0 by itself", z, 1, () -> z.solve(0, 0, 0), 0, new long[][] {{0}});
        Desk w = Desk.printed(a, b);
        Desk none = Desk.printed(new long[][] {{2}, {4}}, new long[][] {{1}, {2}});
        for (int to : both) {
            due.still("no solution for the place of " + to, none, 0, () -> none.solve(to, 0, 1));
            due.still("not one column for the place of " + to, w, SHAPE, () -> w.solve(to, 1, 0));
        }
    }

    private void ownPlaceRefused() {
        long[][] a = {{TOP, 1}, {1, TOP}};
        long[][] row = {{TOP, TOP}};
        for (int m = 0; m < 2; m++) {
            int to = m;
            Desk x = Desk.printed(a, a, row);
            due.still("too large a sum, to " + to, x, LARGE, () -> x.combine(to, 0, 1, 1, 1));
            due.still("too large a product, to " + to, x, LARGE, () -> x.multiply(to, 0, 1));
            due.still("too large a form, to " + to, x, LARGE, () -> x.hermite(to, to));
            due.still("no kernel, to " + to, x, 0, () -> x.kernel(to, to));
        }
        Desk y = Desk.printed(a, a, row);
        due.still("a sum that does not go together, to a", y, SHAPE, () -> y.combine(0, 0, 1, 2, 1));
        due.still("a sum that does not go together, to b", y, SHAPE, () -> y.combine(2, 0, 1, 2, 1));
        due.still("a product that does not go together, to a", y, SHAPE, () -> y.multiply(0, 0, 2));
        due.still("a product that does not go together, to b", y, SHAPE, () -> y.multiply(2, 0, 2));
        due.still("a product of itself", y, SHAPE, () -> y.multiply(2, 2, 2));
        due.still("a solution by itself", y, SHAPE, () -> y.solve(2, 2, 2));
    }

    private void throwsChangesNothing() {
        for (Calls call : Calls.wrongBeside()) {
            for (int m : Samples.beyond(0, 5)) {
                Desk x = Calls.unlike();
                due.throwing(call.with(m), x, Due.INDEX, () -> call.on(x, m));
            }
        }
        Desk x = Desk.printed(new long[][] {{1, 2, 3}, {4, 5, 6}});
        due.throwing("make with 0 rows", x, Due.ARGUMENT, () -> x.make(0, 0, 3));
        due.throwing("make with 7 columns", x, Due.ARGUMENT, () -> x.make(0, 2, 7));
        due.throwing("put of 10^18", x, Due.ARGUMENT, () -> x.put(0, 1, 2, Samples.LIMIT));
        due.throwing("put of -10^18", x, Due.ARGUMENT, () -> x.put(0, 1, 2, -Samples.LIMIT));
        due.throwing("put behind the last row", x, Due.INDEX, () -> x.put(0, 2, 0, 7));
        due.throwing("put behind the last column", x, Due.INDEX, () -> x.put(0, 0, 3, 7));
        due.throwing("at behind the last row", x, Due.INDEX, () -> x.at(0, 2, 0));
        due.throwing("at behind the last column", x, Due.INDEX, () -> x.at(0, 0, 3));
        x.make(0, 6, 6);
        due.matrix("what was put behind the last stands nowhere", x, 0, new long[6][6]);
    }
}
