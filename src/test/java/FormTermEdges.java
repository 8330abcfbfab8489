import java.math.BigInteger;

/** The edges of the terms that rest on steps: the Hermite form, the kernel's basis, the first solution. */
final class FormTermEdges {
    private static final long TOP = Samples.TOP;
    private static final long ROOT = Samples.ROOT;

    private final Edges edges;
    private final Due due;

    FormTermEdges(Edges edges) {
        this.edges = edges;
        due = edges.due;
    }

    void run() {
        edges.terms("A matrix is REACHED from another one by steps, each of which adds a whole multiple of a row "
            + "to another row, exchanges two rows, or turns all signs of a row", this::steps);
        edges.terms("THE HERMITE FORM is the one matrix that is reached", this::formOfForm);
        edges.terms("in which the first number that is not 0 of each row, its LEAD, is above 0", this::leadAboveZero);
        edges.terms("leads lie farther behind from row to row", this::leadsFartherBehind);
        edges.terms("rows of 0 alone are the last ones", this::rowsOfZeroLast);
        edges.terms("and above a lead stand numbers from 0 to below it. (There is just one.)", this::aboveLeads);
        edges.terms("THE KERNEL of a matrix are the rows x of whole numbers for which all its rows, times x, "
            + "number by number, added, give 0", this::kernel);
        edges.terms("THE KERNEL'S BASIS is the Hermite form without rows of 0 whose rows, times whole numbers "
            + "and added, give just the kernel", this::basis);
        edges.terms("A SOLUTION of A and one column b: a column x of whole numbers for which A x is b", this::solution);
        edges.terms("Of all solutions THE FIRST is the one that has, in the column of each lead of the kernel's basis, "
            + "a number from 0 to below that lead. (There is just one, if there is any.)", this::first);
    }

    private void form(String what, long[][] a, long[][] form, int rank) {
        Desk x = Desk.printed(a);
        due.done(what, x, rank, () -> x.hermite(1, 0), 1, form);
    }

    /** What a step reaches has the form of what it was reached from. */
    private void steps() {
        long[][] a = {{2, 4, 4, 1}, {-6, 6, 12, 0}, {10, -4, -16, 3}};
        long[][] form = Samples.longs(Reference.hermite(Reference.of(a)));
        form("before all steps", a, form, 3);
        long[] multiples = {1, -1, 7, 10000000000000000L, -10000000000000000L};
        for (int to = 0; to < 3; to++) {
            form("signs of row " + to, changed(a, to, to, -2), form, 3);
            for (int from = 0; from < 3; from++) {
                if (from == to) {
                    continue;
                }
                for (long times : multiples) {
                    form("row " + from + " times " + times + " to row " + to, changed(a, to, from, times), form, 3);
                }
                long[][] exchanged = Samples.copy(a);
                exchanged[to] = a[from];
                exchanged[from] = a[to];
                form("row " + from + " for row " + to, exchanged, form, 3);
            }
        }
        form("a row doubled is no step", changed(Samples.diagonal(1, 1), 0, 0, 1), Samples.diagonal(2, 1), 2);
    }

    private static long[][] changed(long[][] a, int to, int from, long times) {
        long[][] b = Samples.copy(a);
        for (int j = 0; j < b[to].length; j++) {
            b[to][j] += times * a[from][j];
        }
        return b;
    }

    private void formOfForm() {
        Samples.eachShape((rows, columns) -> {
            long[][] a = Samples.numbered(rows, columns);
            long[][] once = Samples.longs(Reference.hermite(Reference.of(a)));
            int rank = Reference.rank(Reference.of(a));
            form(Samples.sides(rows, columns), a, once, rank);
            form(Samples.sides(rows, columns) + ", of the form", once, once, rank);
            form(Samples.sides(rows, columns) + ", of 0 alone", new long[rows][columns], new long[rows][columns], 0);
        });
        form("Euclid's longest way", Samples.column(Samples.GREATER_FIBONACCI, Samples.LESSER_FIBONACCI),
            Samples.column(1, 0), 1);
        form("Euclid's longest way, turned", Samples.column(-Samples.LESSER_FIBONACCI, Samples.GREATER_FIBONACCI),
            Samples.column(1, 0), 1);
    }

    private void leadAboveZero() {
        long[] numbers = {1, -1, 2, -2, TOP, -TOP};
        for (int column = 0; column < 6; column++) {
            for (long v : numbers) {
                long[][] a = Samples.one(1, 6, 0, column, v);
                if (column < 5) {
                    a[0][5] = -TOP;
                }
                form("one row, lead " + v + " in column " + column, a, Samples.times(a, v < 0 ? -1 : 1), 1);
            }
        }
        form("all below 0", Samples.diagonal(-1, -2, -3, -4, -5, -TOP), Samples.diagonal(1, 2, 3, 4, 5, TOP), 6);
        form("one column", Samples.column(0, -TOP, 0), Samples.column(TOP, 0, 0), 1);
    }

    /** Leads in every choice of columns, the rows standing the wrong way round before. */
    private void leadsFartherBehind() {
        for (int set = 1; set < 64; set++) {
            int count = Integer.bitCount(set);
            long[][] form = new long[count][6];
            long[][] a = new long[count][6];
            int i = 0;
            for (int column = 0; column < 6; column++) {
                if ((set >> column & 1) == 1) {
                    form[i][column] = 3 + column;
                    a[count - 1 - i][column] = -3 - column;
                    i++;
                }
            }
            form("leads " + Integer.toBinaryString(set), a, form, count);
        }
        form("two leads in one column", new long[][] {{2, 1}, {2, 4}}, new long[][] {{2, 1}, {0, 3}}, 2);
        form("leads with a gap", new long[][] {{0, 0, 5}, {0, 0, 0}, {3, 1, 0}},
            new long[][] {{3, 1, 0}, {0, 0, 5}, {0, 0, 0}}, 2);
    }

    /** Rows of 0 in every choice of places; and rows that become 0. */
    private void rowsOfZeroLast() {
        for (int set = 0; set < 64; set++) {
            int count = 6 - Integer.bitCount(set);
            long[][] a = new long[6][6];
            int i = 0;
            for (int row = 0; row < 6; row++) {
                if ((set >> row & 1) == 0) {
                    a[row][i] = 2 + i;
                    i++;
                }
            }
            long[][] form = new long[6][6];
            for (int k = 0; k < count; k++) {
                form[k][k] = 2 + k;
            }
            form("rows of 0: " + Integer.toBinaryString(set), a, form, count);
        }
        form("the same row six times", Samples.all(6, 6, TOP), sameRowForm(), 1);
        form("the second is a multiple", new long[][] {{1, 2}, {-3, -6}, {0, 5}},
            new long[][] {{1, 2}, {0, 5}, {0, 0}}, 2);
    }

    private static long[][] sameRowForm() {
        long[][] form = new long[6][6];
        java.util.Arrays.fill(form[0], TOP);
        return form;
    }

    private void aboveLeads() {
        long[] leads = {1, 2, 7, ROOT, TOP};
        for (long lead : leads) {
            long[] above = {0, 1, -1, lead - 1, lead, Math.min(lead + 1, TOP), 1 - lead, -lead,
                Math.max(-lead - 1, -TOP), TOP, -TOP};
            for (long v : above) {
                String what = v + " above lead " + lead;
                form(what, new long[][] {{1, v}, {0, lead}}, new long[][] {{1, Math.floorMod(v, lead)}, {0, lead}}, 2);
                form(what + ", two rows above", new long[][] {{1, 0, v}, {0, 1, -v}, {0, 0, -lead}},
                    new long[][] {{1, 0, Math.floorMod(v, lead)}, {0, 1, Math.floorMod(-v, lead)}, {0, 0, lead}}, 3);
            }
        }
        form("above a lead, behind another column", new long[][] {{1, -5, 9, 2}, {0, 0, 4, 1}},
            new long[][] {{1, -5, 1, 0}, {0, 0, 4, 1}}, 2);
        form("not above a lead, any number stays", new long[][] {{3, -TOP, TOP}}, new long[][] {{3, -TOP, TOP}}, 1);
    }

    private void kernelIs(String what, long[][] a, long[][] basis) {
        Desk x = Desk.printed(a);
        due.done(what, x, basis.length, () -> x.kernel(1, 0), 1, basis);
    }

    private void kernel() {
        Samples.eachShape((rows, columns) -> {
            String what = Samples.sides(rows, columns);
            kernelIs(what + ", of 0 alone", new long[rows][columns], Samples.diagonal(columns, columns, columns, 1));
            for (int column = 0; column < columns && columns > 1; column++) {
                kernelIs(what + ", one number", Samples.one(rows, columns, rows - 1, column, -TOP),
                    unitsBut(columns, column));
            }
            for (int k = 1; k < columns && k <= rows; k++) {
                kernelIs(what + ", diagonal of " + k, Samples.diagonal(rows, columns, k, 5), lastUnits(columns, k));
            }
        });
        kernelIs("whole numbers, not more", Samples.row(4, 6), new long[][] {{3, -2}});
        kernelIs("Euclid's longest way", Samples.row(Samples.GREATER_FIBONACCI, Samples.LESSER_FIBONACCI),
            new long[][] {{Samples.LESSER_FIBONACCI, -Samples.GREATER_FIBONACCI}});
        kernelIs("the largest", Samples.row(TOP, -1), new long[][] {{1, TOP}});
        kernelIs("the largest, the other way", Samples.row(-1, TOP), new long[][] {{TOP, 1}});
        kernelIs("the largest, twice", Samples.row(TOP, TOP), new long[][] {{1, -1}});
    }

    private static long[][] unitsBut(int columns, int without) {
        long[][] units = new long[columns - 1][columns];
        for (int i = 0; i < columns - 1; i++) {
            units[i][i < without ? i : i + 1] = 1;
        }
        return units;
    }

    private static long[][] lastUnits(int columns, int without) {
        long[][] units = new long[columns - without][columns];
        for (int i = 0; i < units.length; i++) {
            units[i][without + i] = 1;
        }
        return units;
    }

    /** It is a Hermite form, has no row of 0, gives 0, and no more than whole multiples are missing. */
    private void basis() {
        long[][][] all = {{{6, 10, 15}}, {{1, 2, 3, 4, 5, 6}}, {{2, 3, 5, 7, 11, 13}, {-17, 19, 23, 29, 31, 37}},
            {{0, 0, 4, 6}}, {{1, 1, 1, 1}, {1, 1, 1, 1}, {2, 2, 2, 2}}, {{TOP, TOP, TOP - 2}}, {{2, 0, 0}, {0, 0, 2}}};
        for (long[][] a : all) {
            BigInteger[][] numbers = Reference.of(a);
            long[][] basis = Samples.longs(Reference.kernel(numbers));
            kernelIs("basis", a, basis);
            int count = basis.length;
            Desk x = Desk.with(a);
            x.kernel(1, 0);
            due.number("its own form has as many rows", x.hermite(2, 1), count);
            due.truth("it is its own form", x.same(1, 2));
            due.printed("what it gives is all", x, x.divisor(1, count), "1");
            x.turn(3, 1);
            due.number("it can be multiplied", x.multiply(4, 0, 3), 0);
            due.matrix("it gives 0", x, 4, new long[a.length][count]);
        }
    }

    private void solves(String what, long[][] a, long[][] b, long[][] solution) {
        Desk x = Desk.printed(a, b);
        due.done(what, x, 1, () -> x.solve(2, 0, 1), 2, solution);
    }

    private void hasNone(String what, long[][] a, long[][] b) {
        Desk x = Desk.printed(a, b);
        due.still(what, x, 0, () -> x.solve(2, 0, 1));
    }

    private void solution() {
        long[] divisors = {1, -1, 2, -2, 7, -7, TOP, -TOP};
        for (long divisor : divisors) {
            long[] wanted = {0, 1, -1, 2, -2, 7, -7, 8, -8, TOP, -TOP, TOP - 1, 1 - TOP};
            for (long b : wanted) {
                String what = divisor + " x = " + b;
                if (b % divisor == 0) {
                    solves(what, new long[][] {{divisor}}, new long[][] {{b}}, new long[][] {{b / divisor}});
                } else {
                    hasNone(what, new long[][] {{divisor}}, new long[][] {{b}});
                }
            }
        }
        hasNone("0 x = 1", Samples.ZERO, new long[][] {{1}});
        hasNone("0 x = -1", Samples.ZERO, new long[][] {{-1}});
        solves("0 x = 0", Samples.ZERO, Samples.ZERO, Samples.ZERO);
        hasNone("one x, two rows against one another", Samples.column(1, 1), Samples.column(1, 2));
        solves("one x, two rows", Samples.column(1, -1), Samples.column(TOP, -TOP), Samples.column(TOP));
        hasNone("whole in each row alone", new long[][] {{1, 1}, {1, -1}}, Samples.column(1, 0));
        for (int row = 0; row < 6; row++) {
            solves("six rows, all but one", Samples.diagonal(6, 6, 6, 2), Samples.one(6, 1, row, 0, 4),
                Samples.one(6, 1, row, 0, 2));
            hasNone("six rows, one odd", Samples.diagonal(6, 6, 6, 2), Samples.one(6, 1, row, 0, 3));
        }
    }

    /** x - lead y = b has the kernel's basis (lead, 1), and a 0 column before it has a lead of 1. */
    private void first() {
        long[] leads = {1, 2, 7, ROOT, TOP};
        for (long lead : leads) {
            long[] wanted = {0, 1, -1, lead - 1, lead, Math.min(lead + 1, TOP), 1 - lead, -lead,
                Math.max(-lead - 1, -TOP), TOP, -TOP};
            for (long b : wanted) {
                String what = "x - " + lead + " y = " + b;
                long x = Math.floorMod(b, lead);
                long y = -Math.floorDiv(b, lead);
                solves(what, Samples.row(1, -lead), new long[][] {{b}}, Samples.column(x, y));
                solves(what + ", a 0 before", Samples.row(0, 1, -lead), new long[][] {{b}}, Samples.column(0, x, y));
                solves(what + ", a 0 behind", Samples.row(1, -lead, 0), new long[][] {{b}}, Samples.column(x, y, 0));
            }
        }
        Samples.eachShape((rows, columns) -> solves("0 alone, " + Samples.sides(rows, columns), new long[rows][columns],
            new long[rows][1], new long[columns][1]));
        solves("two leads", new long[][] {{6, 10, 15}}, new long[][] {{-1}}, Samples.column(4, 2, -3));
        solves("two leads", new long[][] {{6, 10, 15}}, new long[][] {{TOP}}, Samples.longs(
            Reference.solve(Reference.of(new long[][] {{6, 10, 15}}), Reference.of(new long[][] {{TOP}}))));
    }
}
