import java.math.BigInteger;

/** The edges of the terms that rest on minors: D(k), the rank, factors, characteristic numbers. */
final class MinorTermEdges {
    private static final long TOP = Samples.TOP;
    private static final int NONE = MatrixDesk.NONE;

    private final Edges edges;
    private final Due due;

    MinorTermEdges(Edges edges) {
        this.edges = edges;
        due = edges.due;
    }

    void run() {
        edges.terms("A MINOR of k rows and k columns: the determinant of what stands in these", this::minor);
        edges.terms("D(k) is the greatest common divisor of all minors of k rows and columns", this::allMinors);
        edges.terms("0 if all are 0", this::allMinorsZero);
        edges.terms("D(0) is 1", this::minorOfNothing);
        edges.terms("THE RANK is the greatest k with D(k) not 0", this::greatestK);
        edges.terms("FACTOR k, from 1 to the rank, is D(k) divided by D(k-1)", this::quotients);
        edges.terms("(it divides factor k+1)", this::factorsDivide);
        edges.terms("THE CHARACTERISTIC NUMBERS of n rows and columns: c0 to cn with det(t - A) = c0 + c1 t + .. "
            + "+ cn t^n, t standing along the diagonal", this::characteristicNumbers);
    }

    /** One block of determinant 7 in every choice of rows and columns; all other minors of its size are 0. */
    private void minor() {
        for (int rows = 1; rows < 64; rows++) {
            for (int columns = 1; columns < 64; columns++) {
                int k = Integer.bitCount(rows);
                if (Integer.bitCount(columns) != k) {
                    continue;
                }
                String what = "rows " + Integer.toBinaryString(rows) + ", columns " + Integer.toBinaryString(columns);
                Desk x = Desk.with(Samples.block(6, 6, rows, columns));
                due.printed(what + ", D(" + k + ")", x, x.divisor(0, k), "7");
                due.printed(what + ", factor " + k, x, x.factor(0, k), "7");
                due.number(what + ", rank", x.rank(0), k);
                if (k < 6) {
                    due.printed(what + ", D(" + (k + 1) + ")", x, x.divisor(0, k + 1), "0");
                    due.number(what + ", factor " + (k + 1), x.factor(0, k + 1), NONE);
                }
            }
        }
    }

    /** Every single number, and every minor of two rows, has its part in the common divisor. */
    private void allMinors() {
        for (int row = 0; row < 6; row++) {
            for (int column = 0; column < 6; column++) {
                long[][] a = Samples.all(6, 6, 30);
                a[row][column] = -45;
                Desk x = Desk.with(a);
                String what = "row " + row + ", column " + column;
                due.printed(what + ", 30 but one -45", x, x.divisor(0, 1), "15");
                x.put(0, row, column, 77);
                due.printed(what + ", 30 but one 77", x, x.divisor(0, 1), "1");
                due.printed(what + ", 30 but one 77", x, x.divisor(0, 2), String.valueOf(30 * 47));
                x.put(0, row, column, 0);
                due.printed(what + ", 30 but one 0", x, x.divisor(0, 1), "30");
            }
        }
        minorsOfTwoWithoutCommonDivisor();
        Desk y = Desk.with(Samples.row(Samples.GREATER_FIBONACCI, -Samples.LESSER_FIBONACCI));
        due.printed("Euclid's longest way", y, y.divisor(0, 1), "1");
        y.write(0, Samples.column(-TOP, TOP, 0));
        due.printed("the largest with itself", y, y.divisor(0, 1), String.valueOf(TOP));
    }

    /** Along the diagonal 6, 10 and 15: the minors 60, 90 and 150 have 30 in common, any two of them more. */
    private void minorsOfTwoWithoutCommonDivisor() {
        int[][] places = {{0, 1, 2}, {0, 2, 1}, {1, 0, 2}, {1, 2, 0}, {2, 0, 1}, {2, 1, 0}};
        long[] numbers = {6, -10, 15};
        for (int[] place : places) {
            long[][] a = new long[3][3];
            for (int i = 0; i < 3; i++) {
                a[i][place[i]] = numbers[i];
            }
            Desk x = Desk.with(a);
            due.printed("D(1) of 6, 10, 15", x, x.divisor(0, 1), "1");
            due.printed("D(2) of 6, 10, 15", x, x.divisor(0, 2), "30");
            due.printed("D(3) of 6, 10, 15", x, x.divisor(0, 3), "900");
        }
    }

    private void allMinorsZero() {
        Samples.eachShape((rows, columns) -> {
            Desk x = Desk.printed(new long[rows][columns]);
            Desk y = Desk.printed(Samples.all(rows, columns, -TOP));
            for (int k = 1; k <= Math.min(rows, columns); k++) {
                String what = Samples.sides(rows, columns) + ", D(" + k + ")";
                due.printed(what + " of 0 alone", x, x.divisor(0, k), "0");
                due.printed(what + " of one number alone", y, y.divisor(0, k), k == 1 ? String.valueOf(TOP) : "0");
            }
        });
    }

    private void minorOfNothing() {
        long[] numbers = {1, -1, 2, -7, TOP, -TOP};
        for (long v : numbers) {
            String size = String.valueOf(Math.abs(v));
            Desk x = Desk.printed(new long[][] {{v}});
            due.printed("factor 1 is D(1) divided by 1", x, x.factor(0, 1), size);
            String sign = v < 0 ? "-1" : "1";
            due.printed("the inverse of one number", x, x.inverse(0, 0, 0), size.equals("1") ? sign : sign + "/"
                + size);
            due.still("D(0) itself is not printed", x, NONE, () -> x.divisor(0, 0));
        }
    }

    private void greatestK() {
        Samples.eachShape((rows, columns) -> {
            for (int k = 0; k <= Math.min(rows, columns); k++) {
                String what = Samples.sides(rows, columns) + ", rank ";
                Desk x = Desk.printed(Samples.diagonal(rows, columns, k, -TOP),
                    turnedAround(Samples.diagonal(rows, columns, k, 1)));
                int rank = k;
                due.still(what + k, x, rank, () -> x.rank(0));
                due.still(what + k + ", from the last", x, rank, () -> x.rank(1));
            }
        });
        hardToTell(new long[][] {{TOP, TOP - 1}, {TOP - 1, TOP - 2}}, 2);
        hardToTell(new long[][] {{TOP, TOP}, {-TOP, -TOP}}, 1);
        hardToTell(Samples.diagonal(1L << 32, 1L << 32), 2);
        hardToTell(Samples.diagonal(1L << 32, 1L << 31), 2);
        hardToTell(Samples.diagonal(1000000007L, 998244353L, 1000000009L), 3);
        hardToTell(Samples.widest(TOP), 6);
        hardToTell(Samples.widest(-1), 6);
        hardToTell(Samples.large(6, 6), 6);
        hardToTell(Samples.large(5, 6), 5);
        hardToTell(Samples.large(6, 5), 5);
    }

    /** Minors of the sizes 1, 2^63, 2^64 and the largest: a rank told by rounded or wrapped numbers would fail. */
    private void hardToTell(long[][] a, int rank) {
        Desk x = Desk.printed(a);
        due.still("rank of large numbers", x, rank, () -> x.rank(0));
    }

    private static long[][] turnedAround(long[][] a) {
        long[][] b = new long[a.length][a[0].length];
        for (int i = 0; i < a.length; i++) {
            for (int j = 0; j < a[0].length; j++) {
                b[i][j] = a[a.length - 1 - i][a[0].length - 1 - j];
            }
        }
        return b;
    }

    private void quotients() {
        factorsAre(Samples.diagonal(4, 6), "2", "12");
        factorsAre(Samples.diagonal(-1, -1, -1, -1, -1, -1), "1", "1", "1", "1", "1", "1");
        factorsAre(Samples.diagonal(TOP, -TOP, TOP, -TOP, TOP, -TOP), "" + TOP, "" + TOP, "" + TOP, "" + TOP, "" + TOP,
            "" + TOP);
        factorsAre(Samples.diagonal(2, 6, 30, 0, 0, 0), "2", "6", "30");
        factorsAre(Samples.diagonal(0, 9, 0, 6, 0, 4), "1", "6", "36");
        factorsAre(Samples.diagonal(3, 5, 7, 11, 13, 17), "1", "1", "1", "1", "1", "255255");
        factorsAre(Samples.row(0, -6, 0, 4), "2");
        factorsAre(Samples.column(TOP, -TOP), "" + TOP);
        factorsAre(new long[3][4]);
        factorsAre(Samples.all(6, 6, TOP), "" + TOP);
        BigInteger product = BigInteger.valueOf(TOP).multiply(BigInteger.valueOf(TOP - 1));
        factorsAre(Samples.diagonal(TOP - 1, TOP), "1", product.toString());
    }

    /** As many factors as the rank, and neither one before nor one behind. */
    private void factorsAre(long[][] a, String... factors) {
        Desk x = Desk.printed(a);
        for (int k = 1; k <= factors.length; k++) {
            due.printed("factor " + k, x, x.factor(0, k), factors[k - 1]);
        }
        Desk y = Desk.printed(a);
        due.still("factor 0", y, NONE, () -> y.factor(0, 0));
        due.still("factor " + (factors.length + 1), y, NONE, () -> y.factor(0, factors.length + 1));
        due.still("the rank", y, factors.length, () -> y.rank(0));
    }

    private void factorsDivide() {
        long[][][] all = {Samples.numbered(6, 6), Samples.numbered(4, 6), Samples.large(3, 3), Samples.widest(TOP),
            Samples.diagonal(8, 12, 18, 27, 0, 5), Samples.block(6, 5, 31, 31)};
        for (long[][] a : all) {
            Desk x = Desk.with(a);
            int rank = x.rank(0);
            BigInteger last = BigInteger.ONE;
            for (int k = 1; k <= rank; k++) {
                x.factor(0, k);
                BigInteger factor = new BigInteger(x.print());
                due.text("the rest of factor " + k + " by the one before", factor.mod(last).toString(), "0");
                last = factor;
            }
        }
    }

    private void characteristicNumbers() {
        long[] numbers = {0, 1, -1, TOP, -TOP};
        for (int n = 1; n <= 6; n++) {
            for (long v : numbers) {
                characteristicOf("diagonal " + v, Samples.diagonal(n, n, n, v));
                characteristicOf("all " + v, Samples.all(n, n, v));
                characteristicOf("above the diagonal " + v, aboveDiagonal(n, v));
            }
            characteristicOf("large", Samples.large(n, n));
            characteristicOf("numbered", Samples.numbered(n, n));
        }
        characteristicOf("widest", Samples.widest(TOP));
        characteristicOf("widest", Samples.widest(-TOP));
        Desk x = Desk.with(new long[][] {{-7}});
        due.printed("c0 of one number", x, x.characteristic(0, 0), "7");
        due.printed("c1 of one number", x, x.characteristic(0, 1), "1");
    }

    private static long[][] aboveDiagonal(int n, long v) {
        long[][] a = new long[n][n];
        for (int i = 0; i < n; i++) {
            for (int j = i + 1; j < n; j++) {
                a[i][j] = v;
            }
        }
        return a;
    }

    private void characteristicOf(String what, long[][] a) {
        BigInteger[] c = Reference.characteristic(Reference.of(a));
        for (int k = 0; k < c.length; k++) {
            Desk x = Desk.with(a);
            due.printed(what + ", " + a.length + " rows, c" + k, x, x.characteristic(0, k), c[k].toString());
        }
    }
}
