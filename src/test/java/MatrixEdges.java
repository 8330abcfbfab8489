/** The edges of promises 1 to 8 and 19: a new object, matrices and their numbers, sums, products, rows as columns. */
final class MatrixEdges {
    private static final long TOP = Samples.TOP;
    private static final int NONE = MatrixDesk.NONE;
    private static final int SHAPE = MatrixDesk.SHAPE;
    private static final int LARGE = MatrixDesk.LARGE;
    private static final int LEAST = Integer.MIN_VALUE;
    private static final int GREATEST = Integer.MAX_VALUE;

    private final Edges edges;
    private final Due due;

    MatrixEdges(Edges edges) {
        this.edges = edges;
        due = edges.due;
    }

    void run() {
        edges.promise(1, "Six matrices of one 0", this::sixOfOneZero);
        edges.promise(1, "nothing printed", this::nothingPrinted);
        edges.promise(2, "Matrix m gets so many rows and columns, all 0", this::makeAllZero);
        edges.promise(2, "IndexOutOfBoundsException when there is no such matrix", () -> noSuchMatrix(2));
        edges.promise(2, "IllegalArgumentException when rows or columns are not 1 .. 6", this::makeWrongSides);
        edges.promise(3, "A number of matrix m becomes v", this::putNumber);
        edges.promise(3, "IndexOutOfBoundsException when there is no such matrix, row or column", this::putNowhere);
        edges.promise(3, "IllegalArgumentException when v is too large", this::putTooLarge);
        edges.promise(4, "A number of matrix m", this::atNumber);
        edges.promise(4, "IndexOutOfBoundsException when there is none such", this::atNowhere);
        edges.promise(5, "How many rows (what 0), columns (1) matrix m has", this::sizes);
        edges.promise(5, "NONE when there is none such", this::sizeOfNoMatrix);
        edges.promise(5, "or for another what", this::sizeOfAnotherWhat);
        edges.promise(6, "Matrix to becomes matrix a times x and matrix b times y, added: 0", this::combineNumbers);
        edges.promise(6, "SHAPE", this::combineShape);
        edges.promise(6, "LARGE", this::combineLarge);
        edges.promise(6, "IndexOutOfBoundsException when there is no such matrix (here and below)",
            this::noSuchMatrixBelow);
        edges.promise(7, "Matrix to becomes the product of matrix a and matrix b: 0", this::multiplyNumbers);
        edges.promise(7, "SHAPE", this::multiplyShape);
        edges.promise(7, "LARGE", this::multiplyLarge);
        edges.promise(8, "Matrix to becomes matrix a with rows as columns", this::turnNumbers);
        edges.promise(19, "Whether matrix a and matrix b are the same", this::sameNumbers);
    }

    private void noSuchMatrix(int promise) {
        for (int m : Samples.beyond(0, 5)) {
            for (Calls call : Calls.of(promise, Calls.naming())) {
                Desk x = Calls.twos();
                due.throwing(call.with(m), x, Due.INDEX, () -> call.on(x, m));
            }
            for (Calls call : Calls.of(promise, Calls.wrongBeside())) {
                Desk x = Calls.unlike();
                due.throwing(call.with(m), x, Due.INDEX, () -> call.on(x, m));
            }
        }
    }

    private void noSuchMatrixBelow() {
        for (int promise = 6; promise <= 20; promise++) {
            noSuchMatrix(promise);
        }
    }

    private void sixOfOneZero() {
        Desk x = new Desk();
        for (int m = 0; m < 6; m++) {
            due.matrix("matrix " + m, x, m, Samples.ZERO);
            due.truth("the same as the first", x.same(0, m));
            due.number("rank", x.rank(m), 0);
        }
        due.number("there is no seventh", x.size(6, 0), NONE);
        Desk y = new Desk();
        y.make(0, 6, 6);
        y.put(5, 0, 0, 7);
        Desk z = new Desk();
        due.matrix("another object's matrices are its own", z, 0, Samples.ZERO);
        due.matrix("another object's matrices are its own", z, 5, Samples.ZERO);
        due.matrix("and so are these", y, 5, new long[][] {{7}});
    }

    private void nothingPrinted() {
        Desk x = new Desk();
        due.number("the first character", x.character(0), NONE);
        due.number("the second character", x.character(1), NONE);
        for (int i : Samples.beyond(0, 0)) {
            due.number("character " + i, x.character(i), NONE);
        }
        new Desk().determinant(0);
        due.number("what another object printed", x.character(0), NONE);
        x.divisor(0, 0);
        x.factor(0, 1);
        x.inverse(0, 0, 0);
        x.characteristic(0, 2);
        due.number("what was refused printed nothing", x.character(0), NONE);
    }

    private void makeAllZero() {
        Samples.eachShape((rows, columns) -> {
            String what = Samples.sides(rows, columns);
            for (int m = 0; m < 6; m += 5) {
                int matrix = m;
                Desk x = Desk.printed(Samples.numbered(3, 3), Samples.numbered(2, 2));
                due.done(what + ", matrix " + m, x, 0, () -> make(x, matrix, rows, columns), m,
                    new long[rows][columns]);
            }
            Desk y = Desk.printed(Samples.numbered(rows, columns));
            due.done(what + " again", y, 0, () -> make(y, 0, rows, columns), 0, new long[rows][columns]);
        });
        Desk z = Desk.with(Samples.numbered(6, 6));
        z.make(0, 1, 1);
        z.make(0, 6, 6);
        due.matrix("smaller and larger again", z, 0, new long[6][6]);
    }

    private static long make(Desk x, int m, int rows, int columns) {
        x.make(m, rows, columns);
        return 0;
    }

    private void makeWrongSides() {
        for (int wrong : Samples.beyond(1, 6)) {
            for (int right = 1; right <= 6; right++) {
                int other = right;
                for (int m = 0; m < 6; m += 5) {
                    int matrix = m;
                    Desk x = Desk.printed(Samples.numbered(2, 3), Samples.numbered(1, 2));
                    due.throwing("rows " + wrong, x, Due.ARGUMENT, () -> x.make(matrix, wrong, other));
                    due.throwing("columns " + wrong, x, Due.ARGUMENT, () -> x.make(matrix, other, wrong));
                }
            }
            Desk y = Desk.printed(Samples.numbered(2, 3));
            due.throwing("both " + wrong, y, Due.ARGUMENT, () -> y.make(0, wrong, wrong));
        }
        Desk z = Desk.printed(Samples.numbered(2, 3));
        due.throwing("0 and 7", z, Due.ARGUMENT, () -> z.make(0, 0, 7));
        due.throwing("-1 and -1, whose product is allowed", z, Due.ARGUMENT, () -> z.make(0, -1, -1));
    }

    private void putNumber() {
        long[] numbers = {0, 1, -1, TOP, -TOP, Integer.MAX_VALUE, Integer.MIN_VALUE, 1L << 31, 1L << 32, -(1L << 32),
            1L << 59};
        for (int row = 0; row < 6; row++) {
            for (int column = 0; column < 6; column++) {
                for (long v : numbers) {
                    Desk x = Desk.printed(Samples.numbered(6, 6));
                    long[][] want = Samples.numbered(6, 6);
                    want[row][column] = v;
                    int i = row;
                    int j = column;
                    due.done("row " + row + ", column " + column + ", " + v, x, 0, () -> put(x, 0, i, j, v), 0, want);
                }
            }
        }
        Desk y = Desk.printed();
        due.done("the last matrix", y, 0, () -> put(y, 5, 0, 0, TOP), 5, new long[][] {{TOP}});
        due.done("once more", y, 0, () -> put(y, 5, 0, 0, -TOP), 5, new long[][] {{-TOP}});
    }

    private static long put(Desk x, int m, int row, int column, long v) {
        x.put(m, row, column, v);
        return 0;
    }

    private void putNowhere() {
        noSuchMatrix(3);
        Samples.eachShape((rows, columns) -> {
            String what = Samples.sides(rows, columns);
            for (int row : Samples.beyond(0, rows - 1)) {
                Desk x = Desk.printed(Samples.numbered(rows, columns));
                due.throwing(what + ", row " + row, x, Due.INDEX, () -> x.put(0, row, 0, 99));
                due.throwing(what + ", row " + row + ", too large", x, Due.INDEX,
                    () -> x.put(0, row, columns - 1, TOP + 1));
            }
            for (int column : Samples.beyond(0, columns - 1)) {
                Desk x = Desk.printed(Samples.numbered(rows, columns));
                due.throwing(what + ", column " + column, x, Due.INDEX, () -> x.put(0, 0, column, 99));
                due.throwing(what + ", column " + column + ", too large", x, Due.INDEX,
                    () -> x.put(0, rows - 1, column, TOP + 1));
            }
        });
    }

    private void putTooLarge() {
        long[] large = {TOP + 1, TOP + 2, 2 * TOP, Long.MAX_VALUE - 1, Long.MAX_VALUE, -TOP - 1, -TOP - 2, -2 * TOP,
            Long.MIN_VALUE + 1, Long.MIN_VALUE};
        for (long v : large) {
            Desk x = Desk.printed(Samples.numbered(6, 6));
            due.throwing(v + " in the first place", x, Due.ARGUMENT, () -> x.put(0, 0, 0, v));
            due.throwing(v + " in the last place", x, Due.ARGUMENT, () -> x.put(0, 5, 5, v));
            due.throwing(v + " in the last matrix", x, Due.ARGUMENT, () -> x.put(5, 0, 0, v));
        }
    }

    private void atNumber() {
        long[][] numbers = Samples.numbered(6, 6);
        numbers[0][0] = TOP;
        numbers[5][5] = -TOP;
        Desk x = Desk.with(Samples.ZERO, numbers);
        for (int row = 0; row < 6; row++) {
            for (int column = 0; column < 6; column++) {
                due.number("row " + row + ", column " + column, x.at(1, row, column), numbers[row][column]);
            }
        }
        Desk y = Desk.printed(Samples.numbered(2, 2));
        due.still("it changes nothing", y, -8, () -> y.at(0, 1, 0) - 1);
    }

    private void atNowhere() {
        noSuchMatrix(4);
        Samples.eachShape((rows, columns) -> {
            String what = Samples.sides(rows, columns);
            Desk x = Desk.with(Samples.numbered(rows, columns));
            for (int row : Samples.beyond(0, rows - 1)) {
                due.throwing(what + ", row " + row, Due.INDEX, () -> x.at(0, row, 0));
                due.throwing(what + ", row " + row, Due.INDEX, () -> x.at(0, row, columns - 1));
            }
            for (int column : Samples.beyond(0, columns - 1)) {
                due.throwing(what + ", column " + column, Due.INDEX, () -> x.at(0, 0, column));
                due.throwing(what + ", column " + column, Due.INDEX, () -> x.at(0, rows - 1, column));
            }
        });
    }

    private void sizes() {
        Samples.eachShape((rows, columns) -> {
            Desk x = Desk.printed(new long[rows][columns]);
            x.make(5, columns, rows);
            due.still("rows of the first", x, rows, () -> x.size(0, 0));
            due.still("columns of the first", x, columns, () -> x.size(0, 1));
            due.still("rows of the last", x, columns, () -> x.size(5, 0));
            due.still("columns of the last", x, rows, () -> x.size(5, 1));
        });
    }

    private void sizeOfNoMatrix() {
        Desk x = Desk.printed(new long[2][3]);
        for (int m : Samples.beyond(0, 5)) {
            due.number("matrix " + m + ", rows", x.size(m, 0), NONE);
            due.number("matrix " + m + ", columns", x.size(m, 1), NONE);
            due.number("matrix " + m + ", another what", x.size(m, 2), NONE);
        }
        due.matrix("it changes nothing", x, 0, new long[2][3]);
        due.text("it prints nothing", x.print(), "-34");
    }

    private void sizeOfAnotherWhat() {
        Desk x = Desk.printed(new long[2][3]);
        for (int what : Samples.beyond(0, 1)) {
            due.number("what " + what, x.size(0, what), NONE);
            due.number("what " + what + " of the last", x.size(5, what), NONE);
        }
        due.matrix("it changes nothing", x, 0, new long[2][3]);
        due.text("it prints nothing", x.print(), "-34");
    }

    private void combineNumbers() {
        int[] factors = {0, 1, -1, 2, LEAST, GREATEST};
        Samples.eachShape((rows, columns) -> {
            long[][] a = Samples.numbered(rows, columns);
            long[][] b = Samples.times(Samples.all(rows, columns, 1000), -1);
            for (int x : factors) {
                for (int y : factors) {
                    Desk desk = Desk.printed(a, b, new long[][] {{1, 2, 3}});
                    long[][] sum = Samples.longs(Reference.combine(Reference.of(a), x, Reference.of(b), y));
                    due.done(Samples.sides(rows, columns) + ", " + x + " and " + y, desk, 0,
                        () -> desk.combine(2, 0, x, 1, y), 2, sum);
                }
            }
        });
        combineOne(TOP, GREATEST, -TOP, GREATEST, 0);
        combineOne(TOP, LEAST, -TOP, LEAST, 0);
        combineOne(TOP, LEAST, TOP, GREATEST, -TOP);
        combineOne(TOP, 1, -TOP, 0, TOP);
        combineOne(TOP, 2, -TOP, 1, TOP);
        combineOne(-TOP, 1, TOP, 2, TOP);
        combineOne(465661287, LEAST, 0, 1, 465661287L * LEAST);
        combineOne(0, 1, 465661287, GREATEST, 465661287L * GREATEST);
    }

    private void combineOne(long a, int x, long b, int y, long sum) {
        Desk desk = Desk.printed(new long[][] {{a}}, new long[][] {{b}});
        due.done(a + " times " + x + " and " + b + " times " + y, desk, 0, () -> desk.combine(5, 0, x, 1, y), 5,
            new long[][] {{sum}});
    }

    private void combineShape() {
        int[][] sides = {{1, 1}, {1, 2}, {2, 1}, {2, 2}, {6, 5}, {5, 6}, {6, 6}, {1, 6}, {6, 1}, {2, 3}, {3, 2}};
        for (int[] a : sides) {
            for (int[] b : sides) {
                if (a == b) {
                    continue;
                }
                String what = Samples.sides(a[0], a[1]) + " and " + Samples.sides(b[0], b[1]);
                for (int to = 0; to < 3; to++) {
                    int target = to;
                    Desk x = Desk.printed(Samples.numbered(a[0], a[1]), Samples.numbered(b[0], b[1]),
                        new long[][] {{4, 4}});
                    due.still(what + ", to " + to, x, SHAPE, () -> x.combine(target, 0, 1, 1, 1));
                }
            }
        }
        Desk y = Desk.printed(Samples.all(2, 2, TOP), Samples.all(2, 3, TOP));
        due.still("too large as well", y, SHAPE, () -> y.combine(2, 0, LEAST, 1, GREATEST));
        due.still("times 0 and 0", y, SHAPE, () -> y.combine(2, 0, 0, 1, 0));
    }

    private void combineLarge() {
        combineTooLarge(TOP, 1, 1, 1);
        combineTooLarge(TOP, -1, 1, -1);
        combineTooLarge(TOP, 2, 0, 1);
        combineTooLarge(0, 1, TOP, -2);
        combineTooLarge(TOP, GREATEST, TOP, GREATEST);
        combineTooLarge(TOP, LEAST, TOP, LEAST);
        combineTooLarge(-TOP, LEAST, TOP, GREATEST);
        combineTooLarge(465661288, LEAST, 0, 1);
        combineTooLarge(0, 1, 465661288, GREATEST);
        combineTooLarge(Samples.ROOT, 1000000000, 0, 0);
        combineTooLarge(Samples.ROOT, -1000000000, 0, 0);
        // These wrap around to 0, or to small numbers, in 64 bits.
        combineTooLarge(1L << 33, LEAST, 0, 0);
        combineTooLarge(1L << 40, 1 << 24, 5, 1);
        combineTooLarge(1L << 59, 16, 1L << 59, 16);
        combineTooLarge(1L << 58, 32, 1L << 58, 32);
        combineTooLarge(-(1L << 59), 16, -(1L << 59), 16);
    }

    private void combineTooLarge(long a, int x, long b, int y) {
        String what = a + " times " + x + " and " + b + " times " + y;
        Desk desk = Desk.printed(new long[][] {{1, a}}, new long[][] {{2, b}}, new long[][] {{8}});
        for (int to = 0; to < 3; to++) {
            int target = to;
            due.still(what + ", to " + to, desk, LARGE, () -> desk.combine(target, 0, x, 1, y));
        }
        desk.write(0, new long[][] {{a, 1}});
        desk.write(1, new long[][] {{b, 2}});
        due.still(what + ", in front", desk, LARGE, () -> desk.combine(2, 0, x, 1, y));
    }

    private void multiplyNumbers() {
        Samples.eachShape((rows, middle) -> {
            for (int columns = 1; columns <= 6; columns++) {
                long[][] a = Samples.numbered(rows, middle);
                long[][] b = Samples.times(Samples.numbered(middle, columns), -3);
                Desk x = Desk.printed(a, b, new long[][] {{1, 2, 3}});
                long[][] product = Samples.longs(Reference.multiply(Reference.of(a), Reference.of(b)));
                due.done(Samples.sides(rows, middle) + ", by columns " + columns, x, 0, () -> x.multiply(2, 0, 1), 2,
                    product);
            }
        });
        multiplyOne(Samples.row(TOP, TOP), Samples.column(TOP, -TOP), 0);
        multiplyOne(Samples.row(TOP, TOP, 1), Samples.column(TOP, -TOP, -TOP), -TOP);
        multiplyOne(Samples.row(TOP, TOP, TOP, TOP, TOP, TOP), Samples.column(TOP, TOP, TOP, -TOP, -TOP, -TOP), 0);
        multiplyOne(Samples.row(TOP), Samples.column(-1), -TOP);
        multiplyOne(Samples.row(Samples.ROOT + 1), Samples.column(Samples.ROOT - 1), TOP);
        multiplyOne(Samples.row(0), Samples.column(TOP), 0);
    }

    private void multiplyOne(long[][] row, long[][] column, long product) {
        Desk x = Desk.printed(row, column);
        due.done("one row by one column", x, 0, () -> x.multiply(2, 0, 1), 2, new long[][] {{product}});
    }

    private void multiplyShape() {
        int[][] sides = {{1, 1}, {1, 2}, {2, 1}, {6, 5}, {5, 6}, {6, 6}, {1, 6}, {6, 1}, {2, 3}, {3, 2}};
        for (int[] a : sides) {
            for (int[] b : sides) {
                if (a[1] == b[0]) {
                    continue;
                }
                String what = Samples.sides(a[0], a[1]) + " and " + Samples.sides(b[0], b[1]);
                for (int to = 0; to < 3; to++) {
                    int target = to;
                    Desk x = Desk.printed(Samples.numbered(a[0], a[1]), Samples.numbered(b[0], b[1]),
                        new long[][] {{4, 4}});
                    due.still(what + ", to " + to, x, SHAPE, () -> x.multiply(target, 0, 1));
                }
            }
        }
        Desk y = Desk.printed(Samples.all(2, 3, TOP));
        due.still("too large as well", y, SHAPE, () -> y.multiply(1, 0, 0));
    }

    private void multiplyLarge() {
        multiplyTooLarge(Samples.row(Samples.ROOT), Samples.column(Samples.ROOT));
        multiplyTooLarge(Samples.row(-Samples.ROOT), Samples.column(Samples.ROOT));
        multiplyTooLarge(Samples.row(TOP, 1), Samples.column(1, 1));
        multiplyTooLarge(Samples.row(-TOP, 1), Samples.column(1, -1));
        multiplyTooLarge(Samples.row(TOP), Samples.column(TOP));
        multiplyTooLarge(Samples.row(TOP, TOP, TOP, TOP, TOP, TOP), Samples.column(TOP, TOP, TOP, TOP, TOP, TOP));
        multiplyTooLarge(Samples.row(TOP, TOP, TOP, TOP, TOP, TOP), Samples.column(-TOP, -TOP, -TOP, -TOP, -TOP, -TOP));
        // These wrap around to 0, or to small numbers, in 64 bits.
        multiplyTooLarge(Samples.row(1L << 32), Samples.column(1L << 32));
        multiplyTooLarge(Samples.row(1L << 32, 1), Samples.column(-(1L << 32), 3));
        multiplyTooLarge(Samples.row(1L << 59, 1L << 59), Samples.column(16, 16));
        multiplyTooLarge(Samples.row(1L << 59, 1L << 59, 1L << 59, 1L << 59), Samples.column(8, 8, 8, 8));
    }

    private void multiplyTooLarge(long[][] row, long[][] column) {
        Desk x = Desk.printed(row, column, new long[][] {{8, 8}});
        for (int to = 0; to < 3; to++) {
            int target = to;
            due.still("one row by one column, to " + to, x, LARGE, () -> x.multiply(target, 0, 1));
        }
    }

    private void turnNumbers() {
        Samples.eachShape((rows, columns) -> {
            long[][] a = Samples.numbered(rows, columns);
            a[rows - 1][columns - 1] = -TOP;
            String what = Samples.sides(rows, columns);
            Desk x = Desk.printed(a, new long[][] {{1, 2, 3}});
            due.done(what, x, 0, () -> turn(x, 1, 0), 1, Samples.turned(a));
            due.done(what + ", to the last", x, 0, () -> turn(x, 5, 0), 5, Samples.turned(a));
            due.done(what + ", in its own place", x, 0, () -> turn(x, 0, 0), 0, Samples.turned(a));
        });
    }

    private static long turn(Desk x, int to, int a) {
        x.turn(to, a);
        return 0;
    }

    private void sameNumbers() {
        Samples.eachShape((rows, columns) -> {
            String what = Samples.sides(rows, columns);
            for (int row = 0; row < rows; row++) {
                for (int column = 0; column < columns; column++) {
                    long[][] a = Samples.numbered(rows, columns);
                    Desk x = Desk.printed(a, a);
                    due.still(what + ", all", x, 1, () -> x.same(0, 1) ? 1 : 0);
                    x.put(1, row, column, -a[row][column]);
                    due.still(what + ", all but row " + row + ", column " + column, x, 0, () -> x.same(0, 1) ? 1 : 0);
                    due.number(what + ", the other way", x.same(1, 0) ? 1 : 0, 0);
                }
            }
            Samples.eachShape((otherRows, otherColumns) -> {
                Desk y = Desk.with(new long[rows][columns], new long[otherRows][otherColumns]);
                boolean alike = rows == otherRows && columns == otherColumns;
                due.number(what + ", 0 alone, and " + Samples.sides(otherRows, otherColumns), y.same(0, 1) ? 1 : 0,
                    alike ? 1 : 0);
            });
        });
        sameWhateverStoodThere();
    }

    private void sameWhateverStoodThere() {
        Desk x = Desk.with(Samples.numbered(6, 6), Samples.all(6, 6, TOP));
        x.make(0, 2, 3);
        x.make(1, 2, 3);
        due.truth("what stood there before", x.same(0, 1));
        due.truth("a matrix and itself", x.same(5, 5));
        x.put(0, 1, 2, TOP);
        x.put(1, 1, 2, TOP - 1);
        due.truth("one apart at the edge", !x.same(0, 1));
        x.put(1, 1, 2, -TOP);
        due.truth("the sign alone", !x.same(0, 1));
        x.put(0, 1, 2, 1L << 32);
        x.put(1, 1, 2, 0);
        due.truth("the upper half alone", !x.same(0, 1));
        x.put(0, 1, 2, 0);
        due.truth("all numbers again", x.same(0, 1));
    }
}
