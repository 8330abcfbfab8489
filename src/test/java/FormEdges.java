import java.math.BigInteger;

/** The edges of promises 9 to 12 and 20: rank, hermite, kernel, solve, check. */
final class FormEdges {
    private static final long TOP = Samples.TOP;
    private static final long ROOT = Samples.ROOT;
    private static final int SHAPE = MatrixDesk.SHAPE;
    private static final int LARGE = MatrixDesk.LARGE;

    private final Edges edges;
    private final Due due;

    FormEdges(Edges edges) {
        this.edges = edges;
        due = edges.due;
    }

    void run() {
        edges.promise(9, "The rank of matrix m", this::rank);
        edges.promise(10, "Matrix to becomes the Hermite form of matrix a: its rank", this::hermite);
        edges.promise(10, "LARGE", this::hermiteLarge);
        edges.promise(11, "Matrix to becomes the kernel's basis of matrix a: how many rows it has", this::kernel);
        edges.promise(11, "0, and nothing is done, when the kernel is 0 alone", this::kernelOfZeroAlone);
        edges.promise(11, "LARGE", this::kernelLarge);
        edges.promise(12, "Matrix to becomes THE FIRST solution of matrix a and matrix b: 1", this::solve);
        edges.promise(12, "0, and nothing is done, when there is none", this::solveNone);
        edges.promise(12, "SHAPE, if b is not one column with as many rows", this::solveShape);
        edges.promise(12, "LARGE", this::solveLarge);
        edges.promise(20, "Whether, for matrix m, the steps that the desk goes to its Hermite form come to just that, "
            + "and can be gone back, and the determinant of as many steps as there are rows is 1 or -1: 1; "
            + "it would tell 0", this::check);
    }

    /** Every shape with every rank, the numbers mixed by whole multiples so that no row shows it. */
    private void rank() {
        Samples.eachShape((rows, columns) -> {
            for (int k = 0; k <= Math.min(rows, columns); k++) {
                int rank = k;
                Desk x = Desk.printed(mixed(rows, columns, k));
                due.still(Samples.sides(rows, columns) + ", rank " + k, x, rank, () -> x.rank(0));
            }
        });
        Desk y = new Desk();
        due.number("the first of a new object", y.rank(0), 0);
        due.number("the last of a new object", y.rank(5), 0);
        y.put(5, 0, 0, -TOP);
        due.number("one number", y.rank(5), 1);
    }

    /** A diagonal of k numbers, between two matrices of determinant 1. */
    private static long[][] mixed(int rows, int columns, int k) {
        long[][] left = new long[rows][rows];
        long[][] right = new long[columns][columns];
        for (int i = 0; i < 6; i++) {
            for (int j = 0; j < 6; j++) {
                if (i < rows && j <= i) {
                    left[i][j] = i == j ? 1 : i + 2 * j - 3;
                }
                if (j < columns && i <= j) {
                    right[i][j] = i == j ? 1 : 4 - 2 * i - j;
                }
            }
        }
        BigInteger[][] middle = Reference.of(Samples.diagonal(rows, columns, k, 3));
        return Samples.longs(Reference.multiply(Reference.multiply(Reference.of(left), middle), Reference.of(right)));
    }

    private void hermite() {
        Samples.eachShape((rows, columns) -> {
            for (int k = 0; k <= Math.min(rows, columns); k++) {
                String what = Samples.sides(rows, columns) + ", rank " + k;
                int rank = k;
                long[][] a = mixed(rows, columns, k);
                long[][] form = Samples.longs(Reference.hermite(Reference.of(a)));
                Desk x = Desk.printed(a, new long[][] {{1, 2}});
                due.done(what, x, rank, () -> x.hermite(1, 0), 1, form);
                due.done(what + ", to the last", x, rank, () -> x.hermite(5, 0), 5, form);
                due.done(what + ", in its own place", x, rank, () -> x.hermite(0, 0), 0, form);
            }
        });
        formFits("one row and column", new long[][] {{-TOP}}, new long[][] {{TOP}});
        formFits("one row", Samples.row(0, -TOP, TOP, -TOP, TOP, 1), Samples.row(0, TOP, -TOP, TOP, -TOP, -1));
        formFits("one column", Samples.column(TOP, -TOP, TOP - 1, 0, TOP, TOP), Samples.column(1, 0, 0, 0, 0, 0));
        formFits("large on the way alone", new long[][] {{TOP, TOP - 1}, {TOP - 1, TOP - 2}}, Samples.diagonal(1, 1));
        formFits("all the same", Samples.all(6, 6, -TOP), firstRow(Samples.all(6, 6, TOP)));
    }

    private static long[][] firstRow(long[][] a) {
        for (int i = 1; i < a.length; i++) {
            a[i] = new long[a[0].length];
        }
        return a;
    }

    private void formFits(String what, long[][] a, long[][] form) {
        Desk x = Desk.printed(a);
        int rank = Reference.rank(Reference.of(a));
        due.done(what, x, rank, () -> x.hermite(0, 0), 0, form);
    }

    private void hermiteLarge() {
        formTooLarge("a lead of 10^18", new long[][] {{ROOT + 1, 1}, {ROOT, ROOT}});
        formTooLarge("a number behind of -10^18", new long[][] {{1, 1, -1}, {0, 1, TOP}});
        formTooLarge("a number behind of 10^18", new long[][] {{1, 1, 1}, {0, 1, -TOP}});
        formTooLarge("a lead of 2^64", new long[][] {{(1L << 32) + 1, 1}, {1L << 32, 1L << 32}});
        for (int n = 2; n <= 6; n++) {
            formTooLarge(n + " rows of the largest numbers", Samples.large(n, n));
        }
    }

    private void formTooLarge(String what, long[][] a) {
        Desk x = Desk.printed(a, new long[][] {{1, 2}});
        due.still(what, x, LARGE, () -> x.hermite(1, 0));
        due.still(what + ", in its own place", x, LARGE, () -> x.hermite(0, 0));
    }

    private void kernel() {
        Samples.eachShape((rows, columns) -> {
            for (int k = 0; k <= rows && k < columns; k++) {
                String what = Samples.sides(rows, columns) + ", rank " + k;
                long[][] a = mixed(rows, columns, k);
                long[][] basis = Samples.longs(Reference.kernel(Reference.of(a)));
                int count = columns - k;
                Desk x = Desk.printed(a, new long[][] {{1, 2}});
                due.done(what, x, count, () -> x.kernel(1, 0), 1, basis);
                due.done(what + ", to the last", x, count, () -> x.kernel(5, 0), 5, basis);
                due.done(what + ", in its own place", x, count, () -> x.kernel(0, 0), 0, basis);
            }
        });
        Desk y = Desk.printed();
        due.done("a new object's matrix", y, 1, () -> y.kernel(0, 0), 0, new long[][] {{1}});
        Desk z = Desk.printed(Samples.all(6, 6, -TOP));
        due.done("all the same", z, 5, () -> z.kernel(1, 0), 1,
            Samples.longs(Reference.kernel(Reference.of(Samples.all(6, 6, 1)))));
    }

    private void kernelOfZeroAlone() {
        for (int columns = 1; columns <= 6; columns++) {
            for (int rows = columns; rows <= 6; rows++) {
                String what = Samples.sides(rows, columns);
                Desk x = Desk.printed(mixed(rows, columns, columns), new long[][] {{1, 2}});
                due.still(what, x, 0, () -> x.kernel(1, 0));
                due.still(what + ", in its own place", x, 0, () -> x.kernel(0, 0));
            }
            Desk y = Desk.printed(Samples.large(columns, columns));
            due.still(columns + " rows of the largest numbers", y, 0, () -> y.kernel(1, 0));
        }
        Desk z = Desk.printed(new long[][] {{-TOP}});
        due.still("one number", z, 0, () -> z.kernel(0, 0));
    }

    private void kernelLarge() {
        kernelTooLarge("10^18", new long[][] {{ROOT, 1, 0}, {0, ROOT, 1}});
        kernelTooLarge("-10^18", new long[][] {{ROOT, 1, 0}, {0, ROOT, -1}});
        kernelTooLarge("2^64", new long[][] {{1L << 32, 1, 0}, {0, 1L << 32, 1}});
        kernelTooLarge("a lead of 10^18", new long[][] {{1, ROOT, 0}, {0, 1, ROOT}});
        for (int rows = 2; rows <= 5; rows++) {
            kernelTooLarge(rows + " rows of the largest numbers", Samples.large(rows, rows + 1));
        }
    }

    private void kernelTooLarge(String what, long[][] a) {
        Desk x = Desk.printed(a, new long[][] {{1, 2}});
        due.still(what, x, LARGE, () -> x.kernel(1, 0));
        due.still(what + ", in its own place", x, LARGE, () -> x.kernel(0, 0));
    }

    /** Every shape with every rank; b is a column that there is a solution for. */
    private void solve() {
        Samples.eachShape((rows, columns) -> {
            for (int k = 0; k <= Math.min(rows, columns); k++) {
                BigInteger[][] a = Reference.of(mixed(rows, columns, k));
                BigInteger[][] b = Reference.multiply(a, Reference.of(Samples.turned(Samples.numbered(1, columns))));
                long[][] solution = Samples.longs(Reference.solve(a, b));
                String what = Samples.sides(rows, columns) + ", rank " + k;
                for (int to = 0; to < 3; to++) {
                    int target = to;
                    Desk x = Desk.printed(Samples.longs(a), Samples.longs(b), new long[][] {{1, 2}});
                    due.done(what + ", to " + to, x, 1, () -> x.solve(target, 0, 1), to, solution);
                }
            }
        });
        Desk x = Desk.printed(Samples.large(6, 6), Samples.turned(Samples.row(Samples.large(6, 6)[0])));
        Samples.eachShape((rows, columns) -> solvesByFirstColumn(Samples.large(rows, columns)));
        due.still("the first row as a column is none", x, 0, () -> x.solve(2, 0, 1));
    }

    /** b is the first column of a. */
    private void solvesByFirstColumn(long[][] a) {
        long[][] b = new long[a.length][1];
        for (int i = 0; i < a.length; i++) {
            b[i][0] = a[i][0];
        }
        BigInteger[][] solution = Reference.solve(Reference.of(a), Reference.of(b));
        Desk x = Desk.printed(a, b);
        String what = "largest numbers, " + Samples.sides(a.length, a[0].length);
        if (Samples.fits(solution)) {
            due.done(what, x, 1, () -> x.solve(2, 0, 1), 2, Samples.longs(solution));
        } else {
            due.still(what, x, LARGE, () -> x.solve(2, 0, 1));
        }
    }

    private void solveNone() {
        noSolution("no whole number", new long[][] {{2}}, new long[][] {{1}});
        noSolution("no whole number below 0", new long[][] {{2}}, new long[][] {{-1}});
        noSolution("nothing but 0", new long[][] {{0}}, new long[][] {{TOP}});
        noSolution("all even", Samples.row(2, 4, 6, 8, 10, 12), new long[][] {{TOP}});
        noSolution("rows against one another", Samples.column(1, 1, 1, 1, 1, 1), Samples.column(1, 1, 1, 1, 1, 2));
        noSolution("a row of 0", new long[][] {{1, 0}, {0, 0}}, Samples.column(5, 1));
        noSolution("too large in one, none in another", new long[][] {{1, 0, 0}, {TOP, 1, 0}, {0, 0, 2}},
            Samples.column(1, -1, 1));
        noSolution("less than one", new long[][] {{TOP}}, new long[][] {{1}});
        noSolution("largest numbers", Samples.large(6, 6), Samples.column(1, 0, 0, 0, 0, 0));
        for (int row = 0; row < 6; row++) {
            noSolution("row " + row + " alone", Samples.diagonal(6, 6, 6, 3), Samples.one(6, 1, row, 0, 2));
        }
    }

    private void noSolution(String what, long[][] a, long[][] b) {
        for (int to = 0; to < 3; to++) {
            int target = to;
            Desk x = Desk.printed(a, b, new long[][] {{1, 2}});
            due.still(what + ", to " + to, x, 0, () -> x.solve(target, 0, 1));
        }
    }

    private void solveShape() {
        Samples.eachShape((rows, columns) -> {
            for (int wrong = 1; wrong <= 6; wrong++) {
                String what = Samples.sides(rows, columns) + " and ";
                if (wrong != rows) {
                    notOneColumn(what + wrong + " rows", rows, columns, wrong, 1);
                }
                if (wrong != 1) {
                    notOneColumn(what + wrong + " columns", rows, columns, rows, wrong);
                }
            }
        });
        Desk x = Desk.printed(new long[][] {{1, 2}, {3, 4}}, new long[][] {{1, 2}});
        due.still("a row in place of a column", x, SHAPE, () -> x.solve(2, 0, 1));
        due.still("as many rows as a has columns", x, SHAPE, () -> x.solve(2, 1, 0));
        due.still("by itself", x, SHAPE, () -> x.solve(2, 0, 0));
    }

    private void notOneColumn(String what, int rows, int columns, int otherRows, int otherColumns) {
        for (int to = 0; to < 3; to++) {
            int target = to;
            Desk x = Desk.printed(Samples.numbered(rows, columns), new long[otherRows][otherColumns],
                new long[][] {{1, 2}});
            due.still(what + ", to " + to, x, SHAPE, () -> x.solve(target, 0, 1));
        }
    }

    private void solveLarge() {
        solutionTooLarge("10^18", new long[][] {{1, 0}, {-TOP, 1}}, Samples.column(1, 1));
        solutionTooLarge("-10^18", new long[][] {{1, 0}, {TOP, 1}}, Samples.column(1, -1));
        solutionTooLarge("in front", new long[][] {{1, TOP}, {0, 1}}, Samples.column(-1, 1));
        solutionTooLarge("2^64", new long[][] {{1, 0}, {-(1L << 32), 1}}, Samples.column(1L << 32, 0));
        solutionTooLarge("nearly 10^36", new long[][] {{1, 0}, {TOP, 1}}, Samples.column(TOP, 0));
        solutionTooLarge("six rows", chain(), Samples.column(TOP, 0, 0, 0, 0, 0));
    }

    private static long[][] chain() {
        long[][] a = Samples.diagonal(6, 6, 6, 1);
        for (int i = 1; i < 6; i++) {
            a[i][i - 1] = -TOP;
        }
        return a;
    }

    private void solutionTooLarge(String what, long[][] a, long[][] b) {
        for (int to = 0; to < 3; to++) {
            int target = to;
            Desk x = Desk.printed(a, b, new long[][] {{1, 2}});
            due.still(what + ", to " + to, x, LARGE, () -> x.solve(target, 0, 1));
        }
    }

    private void check() {
        Samples.eachShape((rows, columns) -> {
            String what = Samples.sides(rows, columns);
            checked(what + ", 0 alone", new long[rows][columns]);
            checked(what + ", all the largest", Samples.all(rows, columns, -TOP));
            checked(what + ", largest numbers", Samples.large(rows, columns));
            checked(what + ", numbered", Samples.numbered(rows, columns));
            for (int k = 0; k <= Math.min(rows, columns); k++) {
                checked(what + ", rank " + k, mixed(rows, columns, k));
            }
        });
        checked("a form too large for a matrix", new long[][] {{ROOT + 1, 1}, {ROOT, ROOT}});
        checked("the widest", Samples.widest(TOP));
        checked("Euclid's longest way", Samples.column(Samples.GREATER_FIBONACCI, -Samples.LESSER_FIBONACCI));
        checked("two rows to exchange", new long[][] {{0, 1}, {1, 0}});
        checked("one sign to turn", new long[][] {{-1}});
        Desk x = new Desk();
        due.number("the last of a new object", x.check(5), 1);
    }

    private void checked(String what, long[][] a) {
        Desk x = Desk.printed(a);
        due.still(what, x, 1, () -> x.check(0));
    }
}
