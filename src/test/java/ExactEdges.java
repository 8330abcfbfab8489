import java.util.function.ToLongFunction;

/** The document's first sentence: all that it lists is exact where numbers are the largest and lie close together. */
final class ExactEdges {
    private static final long TOP = Samples.TOP;
    /** Its determinant is -2, a difference of two products of 36 figures. */
    private static final long[][] CLOSE = {{TOP, TOP - 1}, {TOP - 2, TOP - 3}};
    /** Of rank 1, the second row being three times the first. */
    private static final long[][] THRICE = {{TOP / 3, TOP / 9}, {TOP, TOP / 3}};

    private final Edges edges;
    private final Due due;

    ExactEdges(Edges edges) {
        this.edges = edges;
        due = edges.due;
    }

    void run() {
        what("Matrices of whole numbers, exactly", this::numbers);
        what("sums and products", this::sumsAndProducts);
        what("determinants", () -> printed("determinant", x -> x.determinant(0), "-2"));
        what("ranks", this::ranks);
        what("common divisors of minors", this::divisors);
        what("the one Hermite form", this::hermite);
        what("the numbers of the Smith form", this::factors);
        what("kernels", this::kernels);
        what("whole solutions", this::solutions);
        what("inverses as fractions", this::inverses);
        what("characteristic numbers", this::characteristics);
    }

    private void what(String words, Runnable test) {
        edges.sentence("What it is", words, test);
    }

    private void printed(String what, ToLongFunction<Desk> call, String want) {
        Desk x = Desk.printed(CLOSE);
        due.prints(what, x, () -> call.applyAsLong(x), want);
    }

    private void numbers() {
        for (int shift = 0; shift < 60; shift++) {
            for (long v : new long[] {TOP - (1L << shift), (1L << shift) - 1, (1L << shift) + 1}) {
                if (v <= TOP) {
                    due.matrix("put", Desk.with(new long[][] {{v, -v}}), 0, new long[][] {{v, -v}});
                }
            }
        }
    }

    private void sumsAndProducts() {
        int most = Integer.MAX_VALUE;
        Desk x = Desk.with(CLOSE);
        due.done("combine", x, 0, () -> x.combine(1, 0, most, 0, 1 - most), 1, CLOSE);
        Desk y = Desk.with(Samples.row(TOP, TOP - 1), Samples.column(TOP - 3, 2 - TOP));
        due.done("multiply", y, 0, () -> y.multiply(2, 0, 1), 2, new long[][] {{-2}});
    }

    private void ranks() {
        due.number("rank", Desk.with(CLOSE).rank(0), 2);
        due.number("rank", Desk.with(THRICE).rank(0), 1);
    }

    private void divisors() {
        printed("divisor 1", x -> x.divisor(0, 1), "1");
        printed("divisor 2", x -> x.divisor(0, 2), "2");
        Desk x = Desk.printed(THRICE);
        due.prints("divisor 1", x, () -> x.divisor(0, 1), "111111111111111111");
        due.prints("divisor 2", x, () -> x.divisor(0, 2), "0");
    }

    private void hermite() {
        Desk x = Desk.with(CLOSE);
        due.done("hermite", x, 2, () -> x.hermite(1, 0), 1, new long[][] {{1, 0}, {0, 2}});
        Desk y = Desk.with(THRICE);
        due.done("hermite", y, 1, () -> y.hermite(1, 0), 1, new long[][] {{TOP / 3, TOP / 9}, {0, 0}});
    }

    private void factors() {
        printed("factor 1", x -> x.factor(0, 1), "1");
        printed("factor 2", x -> x.factor(0, 2), "2");
    }

    private void kernels() {
        Desk x = Desk.with(Samples.row(TOP, TOP - 1));
        due.done("kernel", x, 1, () -> x.kernel(1, 0), 1, new long[][] {{TOP - 1, -TOP}});
        Desk y = Desk.with(CLOSE);
        due.still("kernel", y, 0, () -> y.kernel(1, 0));
    }

    private void solutions() {
        Desk x = Desk.with(CLOSE, Samples.column(1, 1));
        due.done("solve", x, 1, () -> x.solve(2, 0, 1), 2, Samples.column(1, -1));
        Desk y = Desk.with(CLOSE, Samples.column(1, 0));
        due.still("solve, by halves alone", y, 0, () -> y.solve(2, 0, 1));
    }

    private void inverses() {
        printed("inverse 0 0", x -> x.inverse(0, 0, 0), "-499999999999999998");
        printed("inverse 0 1", x -> x.inverse(0, 0, 1), "499999999999999999");
        printed("inverse 1 0", x -> x.inverse(0, 1, 0), "999999999999999997/2");
        printed("inverse 1 1", x -> x.inverse(0, 1, 1), "-999999999999999999/2");
    }

    private void characteristics() {
        printed("characteristic 0", x -> x.characteristic(0, 0), "-2");
        printed("characteristic 1", x -> x.characteristic(0, 1), "-1999999999999999995");
        printed("characteristic 2", x -> x.characteristic(0, 2), "1");
    }
}
