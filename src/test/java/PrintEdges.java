import java.math.BigInteger;

/** The edges of promises 13 to 18: what is printed, and what stays printed. */
final class PrintEdges {
    private static final long TOP = Samples.TOP;
    private static final int NONE = MatrixDesk.NONE;
    private static final int SHAPE = MatrixDesk.SHAPE;

    private final Edges edges;
    private final Due due;

    PrintEdges(Edges edges) {
        this.edges = edges;
        due = edges.due;
    }

    void run() {
        edges.promise(13, "Prints the determinant of matrix m", this::determinant);
        edges.promise(13, "'-' below 0", this::determinantBelowZero);
        edges.promise(13, "then its size in decimal (0 is one character)", this::determinantInDecimal);
        edges.promise(13, "how many characters", this::howManyCharacters);
        edges.promise(13, "SHAPE, and what was printed stays, when it has not as many rows as columns",
            this::determinantShape);
        edges.promise(14, "Prints D(k) of matrix m", this::divisor);
        edges.promise(14, "NONE, and what was printed stays, when there are no minors of k rows",
            this::divisorOfNoMinors);
        edges.promise(14, "or k is below 1 (0, too)", this::divisorBelowOne);
        edges.promise(15, "Prints factor k of matrix m", this::factor);
        edges.promise(15, "NONE, and what was printed stays, when k is not from 1 to the rank", this::factorNone);
        edges.promise(16, "Prints a number of the inverse of matrix m", this::inverse);
        edges.promise(16, "'-' below 0", this::inverseBelowZero);
        edges.promise(16, "the number above in decimal", this::inverseAbove);
        edges.promise(16, "and, if that below is not 1, '/' and it", this::inverseBelow);
        edges.promise(16, "in least terms", this::inverseInLeastTerms);
        edges.promise(16, "SHAPE when it has not as many rows as columns", this::inverseShape);
        edges.promise(16, "NONE when there is no such row or column", this::inverseNowhere);
        edges.promise(16, "or no inverse", this::noInverse);
        edges.promise(16, "what was printed stays then", this::inverseStays);
        edges.promise(17, "Prints characteristic number k of matrix m, as determinant() does", this::characteristic);
        edges.promise(17, "SHAPE when it has not as many rows as columns", this::characteristicShape);
        edges.promise(17, "NONE when there is no such k", this::characteristicNone);
        edges.promise(17, "what was printed stays then", this::characteristicStays);
        edges.promise(18, "Character i of what was printed latest", this::character);
        edges.promise(18, "NONE when there is none", this::characterNone);
    }

    private void determinantIs(String what, long[][] a, String text) {
        Desk x = Desk.printed(a);
        due.prints(what, x, () -> x.determinant(0), text);
    }

    private void determinant() {
        Desk x = Desk.printed();
        due.prints("a new object's last matrix", x, () -> x.determinant(5), "0");
        for (int n = 1; n <= 6; n++) {
            determinantIs(n + " rows of 0", new long[n][n], "0");
            determinantIs(n + " rows of the largest numbers", Samples.large(n, n),
                Reference.determinant(Reference.of(Samples.large(n, n))).toString());
            determinantIs(n + " rows, all the same", Samples.all(n, n, TOP), n == 1 ? "" + TOP : "0");
            determinantIs(n + " rows, 1 along the diagonal", Samples.diagonal(n, n, n, 1), "1");
            determinantIs(n + " rows, one 0 along the diagonal", Samples.diagonal(n, n, n - 1, TOP), "0");
            determinantIs(n + " rows, a block", Samples.block(n, n, (1 << n) - 1, (1 << n) - 1), "7");
        }
        permutations(new int[6], 0, 0, 1);
    }

    /** Every way to put 1 once into each of six rows and columns, with its sign. */
    private void permutations(int[] columns, int row, int taken, int sign) {
        if (row == 6) {
            long[][] a = new long[6][6];
            for (int i = 0; i < 6; i++) {
                a[i][columns[i]] = 1;
            }
            Desk x = Desk.with(a);
            due.printed(java.util.Arrays.toString(columns), x, x.determinant(0), String.valueOf(sign));
            return;
        }
        for (int column = 0; column < 6; column++) {
            if ((taken >> column & 1) == 0) {
                columns[row] = column;
                boolean odd = Integer.bitCount(taken >> column) % 2 == 1;
                permutations(columns, row + 1, taken | 1 << column, odd ? -sign : sign);
            }
        }
    }

    private void determinantBelowZero() {
        determinantIs("-1", new long[][] {{-1}}, "-1");
        determinantIs("1", new long[][] {{1}}, "1");
        determinantIs("0 has no sign", new long[][] {{0}}, "0");
        determinantIs("0 of numbers below 0", new long[][] {{-2, -2}, {-2, -2}}, "0");
        determinantIs("the least number", new long[][] {{-TOP}}, "-999999999999999999");
        determinantIs("the greatest number", new long[][] {{TOP}}, "999999999999999999");
        determinantIs("two signs", Samples.diagonal(-1, -1), "1");
        determinantIs("three signs", Samples.diagonal(-1, -1, -1), "-1");
        String widest = BigInteger.valueOf(TOP).pow(6).multiply(BigInteger.valueOf(160)).toString();
        long[][] exchanged = Samples.widest(TOP);
        boolean below = Reference.determinant(Reference.of(exchanged)).signum() < 0;
        determinantIs("the widest of one sign", exchanged, below ? "-" + widest : widest);
        long[] first = exchanged[0];
        exchanged[0] = exchanged[5];
        exchanged[5] = first;
        determinantIs("the widest of the other", exchanged, below ? widest : "-" + widest);
    }

    /** Powers of ten and of two and their neighbours, of both signs, so far as six numbers give them. */
    private void determinantInDecimal() {
        determinantIs("0", Samples.ZERO, "0");
        for (int power = 0; power <= 102; power++) {
            BigInteger value = BigInteger.TEN.pow(power);
            determinantIs("10^" + power, powers(10, 17, power, 1), value.toString());
            determinantIs("-10^" + power, powers(10, 17, power, -1), value.negate().toString());
        }
        for (int power = 0; power <= 354; power++) {
            determinantIs("2^" + power, powers(2, 59, power, 1), BigInteger.TWO.pow(power).toString());
        }
        for (int power = 0; power <= 34; power++) {
            long a = BigInteger.TEN.pow(power / 2).longValue();
            long b = BigInteger.TEN.pow(power - power / 2).longValue();
            BigInteger value = BigInteger.TEN.pow(power);
            determinantIs("one below 10^" + power, new long[][] {{a, 1}, {1, b}},
                value.subtract(BigInteger.ONE).toString());
            determinantIs("one above 10^" + power, new long[][] {{a, 1}, {-1, b}},
                value.add(BigInteger.ONE).toString());
            determinantIs("one below -10^" + power, new long[][] {{-a, 1}, {1, b}},
                value.negate().subtract(BigInteger.ONE).toString());
        }
        for (long figure = 1; figure <= 9; figure++) {
            determinantIs("one figure", new long[][] {{figure}}, String.valueOf(figure));
        }
    }

    /** A power of the base, at most so much of it in each number, with that sign. */
    private static long[][] powers(long base, int most, int power, int sign) {
        long[] numbers = new long[6];
        int rest = power;
        for (int i = 0; i < 6; i++) {
            int here = Math.min(rest, most);
            numbers[i] = BigInteger.valueOf(base).pow(here).longValue();
            rest -= here;
        }
        numbers[0] *= sign;
        return Samples.diagonal(numbers);
    }

    private void howManyCharacters() {
        for (int figures = 1; figures <= 103; figures++) {
            Desk x = Desk.with(powers(10, 17, figures - 1, 1));
            due.number(figures + " figures", x.determinant(0), figures);
            due.number("the last figure", x.character(figures - 1), figures == 1 ? '1' : '0');
            due.number("behind the last figure", x.character(figures), NONE);
            x.put(0, 0, 0, -x.at(0, 0, 0));
            due.number(figures + " figures and a sign", x.determinant(0), figures + 1);
            due.number("behind the last figure", x.character(figures + 1), NONE);
        }
        Desk y = Desk.with(Samples.widest(TOP));
        boolean below = Reference.determinant(Reference.of(Samples.widest(TOP))).signum() < 0;
        due.number("the widest", y.determinant(0), below ? 112 : 111);
        due.number("0", y.determinant(5), 1);
    }

    private void determinantShape() {
        Samples.eachShape((rows, columns) -> {
            if (rows != columns) {
                Desk x = Desk.printed(Samples.numbered(rows, columns));
                due.still(Samples.sides(rows, columns), x, SHAPE, () -> x.determinant(0));
            }
        });
    }

    private void divisor() {
        Samples.eachShape((rows, columns) -> {
            int most = Math.min(rows, columns);
            for (int k = 1; k <= most; k++) {
                int asked = k;
                String what = Samples.sides(rows, columns) + ", D(" + k + ")";
                Desk x = Desk.printed(Samples.diagonal(rows, columns, most, -TOP));
                due.prints(what, x, () -> x.divisor(0, asked), BigInteger.valueOf(TOP).pow(k).toString());
                Desk y = Desk.printed(new long[rows][columns]);
                due.prints(what + " of 0", y, () -> y.divisor(0, asked), "0");
                Desk z = Desk.printed(Samples.numbered(rows, columns));
                due.prints(what + " of numbers", z, () -> z.divisor(0, asked),
                    Reference.divisor(Reference.of(Samples.numbered(rows, columns)), k).toString());
            }
        });
        Desk x = Desk.printed(Samples.widest(TOP));
        due.prints("D(6) of the widest, never below 0", x, () -> x.divisor(0, 6),
            BigInteger.valueOf(TOP).pow(6).multiply(BigInteger.valueOf(160)).toString());
        Desk y = Desk.printed(new long[][] {{-5}});
        due.prints("D(1) of one number, never below 0", y, () -> y.divisor(0, 1), "5");
    }

    private void divisorOfNoMinors() {
        Samples.eachShape((rows, columns) -> {
            int most = Math.min(rows, columns);
            for (int k = most + 1; k <= 8; k++) {
                int asked = k;
                Desk x = Desk.printed(Samples.numbered(rows, columns));
                due.still(Samples.sides(rows, columns) + ", k " + k, x, NONE, () -> x.divisor(0, asked));
            }
            for (int k : Samples.beyond(1, most)) {
                Desk x = Desk.printed(Samples.numbered(rows, columns));
                due.still(Samples.sides(rows, columns) + ", k " + k, x, NONE, () -> x.divisor(0, k));
            }
        });
    }

    private void divisorBelowOne() {
        int[] below = {0, -1, -2, Integer.MIN_VALUE, Integer.MIN_VALUE + 1};
        for (int k : below) {
            Samples.eachShape((rows, columns) -> {
                Desk x = Desk.printed(Samples.numbered(rows, columns));
                due.still(Samples.sides(rows, columns) + ", k " + k, x, NONE, () -> x.divisor(0, k));
            });
        }
    }

    private void factor() {
        Samples.eachShape((rows, columns) -> {
            int most = Math.min(rows, columns);
            for (int rank = 1; rank <= most; rank++) {
                for (int k = 1; k <= rank; k++) {
                    int asked = k;
                    String what = Samples.sides(rows, columns) + ", rank " + rank + ", factor " + k;
                    Desk x = Desk.printed(Samples.diagonal(rows, columns, rank, -TOP));
                    due.prints(what, x, () -> x.factor(0, asked), String.valueOf(TOP));
                    Desk y = Desk.printed(Samples.block(rows, columns, (1 << rank) - 1, (1 << rank) - 1));
                    due.prints(what + " of a block", y, () -> y.factor(0, asked), k == rank ? "7" : "1");
                }
            }
        });
        BigInteger wide = BigInteger.valueOf(TOP).multiply(BigInteger.valueOf(TOP - 1));
        Desk x = Desk.printed(Samples.diagonal(TOP, TOP - 1));
        due.prints("first of two without a common divisor", x, () -> x.factor(0, 1), "1");
        due.prints("second of two without a common divisor", x, () -> x.factor(0, 2), wide.toString());
        BigInteger last = Reference.factors(Reference.of(Samples.large(6, 6)))[5];
        Desk y = Desk.printed(Samples.large(6, 6));
        due.prints("the last of the largest numbers", y, () -> y.factor(0, 6), last.toString());
    }

    private void factorNone() {
        Samples.eachShape((rows, columns) -> {
            for (int rank = 0; rank <= Math.min(rows, columns); rank++) {
                String what = Samples.sides(rows, columns) + ", rank " + rank + ", k ";
                for (int k = rank + 1; k <= 7; k++) {
                    int asked = k;
                    Desk x = Desk.printed(Samples.diagonal(rows, columns, rank, 2));
                    due.still(what + k, x, NONE, () -> x.factor(0, asked));
                }
                for (int k : Samples.beyond(1, rank)) {
                    Desk x = Desk.printed(Samples.diagonal(rows, columns, rank, 2));
                    due.still(what + k, x, NONE, () -> x.factor(0, k));
                }
            }
        });
        Desk y = Desk.printed(Samples.all(6, 6, TOP));
        due.still("all the same, the second", y, NONE, () -> y.factor(0, 2));
    }

    private void inverseIs(String what, long[][] a, int row, int column, String text) {
        Desk x = Desk.printed(a);
        due.prints(what + ", row " + row + ", column " + column, x, () -> x.inverse(0, row, column), text);
    }

    private void inverse() {
        for (int n = 1; n <= 6; n++) {
            long[][][] all = {Samples.large(n, n), Samples.diagonal(n, n, n, -TOP), Samples.diagonal(n, n, n, 1),
                Samples.block(n, n, (1 << n) - 1, (1 << n) - 1), lower(n)};
            for (long[][] a : all) {
                for (int row = 0; row < n; row++) {
                    for (int column = 0; column < n; column++) {
                        inverseIs(n + " rows", a, row, column, Reference.inverse(Reference.of(a), row, column));
                    }
                }
            }
        }
        inverseIs("row, then column", new long[][] {{1, 5}, {0, 1}}, 0, 1, "-5");
        inverseIs("row, then column", new long[][] {{1, 5}, {0, 1}}, 1, 0, "0");
    }

    private static long[][] lower(int n) {
        long[][] a = Samples.diagonal(n, n, n, 2);
        for (int i = 1; i < n; i++) {
            a[i][i - 1] = 3;
        }
        return a;
    }

    private void inverseBelowZero() {
        inverseIs("-1", new long[][] {{-1}}, 0, 0, "-1");
        inverseIs("-2", new long[][] {{-2}}, 0, 0, "-1/2");
        inverseIs("the least", new long[][] {{-TOP}}, 0, 0, "-1/999999999999999999");
        inverseIs("both below 0", new long[][] {{-2, 0}, {0, -3}}, 0, 0, "-1/2");
        inverseIs("above below 0", new long[][] {{2, 1}, {0, 3}}, 0, 1, "-1/6");
        inverseIs("below below 0", new long[][] {{2, -1}, {0, -3}}, 0, 1, "-1/6");
        inverseIs("neither", new long[][] {{2, -1}, {0, 3}}, 0, 1, "1/6");
        inverseIs("an exchange", new long[][] {{0, 1}, {1, 0}}, 0, 1, "1");
        inverseIs("an exchange and a sign", new long[][] {{0, -1}, {1, 0}}, 1, 0, "-1");
        inverseIs("0 has no sign", new long[][] {{-2, 0}, {0, 3}}, 0, 1, "0");
        inverseIs("0 has no sign", new long[][] {{2, 0}, {0, -3}}, 1, 0, "0");
        inverseIs("0 has no sign", new long[][] {{-2, 0}, {0, -3}}, 1, 0, "0");
    }

    private void inverseAbove() {
        inverseIs("1", new long[][] {{1}}, 0, 0, "1");
        inverseIs("0", Samples.diagonal(5, 7), 0, 1, "0");
        inverseIs("the largest", new long[][] {{1, TOP}, {0, 1}}, 0, 1, "-999999999999999999");
        inverseIs("the largest above 0", new long[][] {{1, -TOP}, {0, 1}}, 0, 1, "999999999999999999");
        long[][] chain = Samples.diagonal(6, 6, 6, 1);
        for (int i = 1; i < 6; i++) {
            chain[i][i - 1] = -TOP;
        }
        for (int row = 0; row < 6; row++) {
            inverseIs("a power of the largest", chain, row, 0, BigInteger.valueOf(TOP).pow(row).toString());
        }
        inverseIs("10^18", new long[][] {{1, 0, 0}, {-Samples.ROOT, 1, 0}, {0, -Samples.ROOT, 1}}, 2, 0,
            "1000000000000000000");
    }

    private void inverseBelow() {
        inverseIs("below is 1", new long[][] {{1}}, 0, 0, "1");
        inverseIs("below is 2", new long[][] {{2}}, 0, 0, "1/2");
        inverseIs("below is 10", new long[][] {{10}}, 0, 0, "1/10");
        inverseIs("below is the largest", new long[][] {{TOP}}, 0, 0, "1/999999999999999999");
        inverseIs("the determinant is 1", new long[][] {{2, 1}, {1, 1}}, 1, 1, "2");
        inverseIs("the determinant is -1", new long[][] {{1, 2}, {1, 1}}, 0, 1, "2");
        inverseIs("0 has nothing below", Samples.diagonal(2, 2), 0, 1, "0");
        inverseIs("0 has nothing below", Samples.diagonal(-2, TOP), 1, 0, "0");
        longestFractions();
    }

    private void longestFractions() {
        BigInteger[][] numbers = Reference.of(Samples.longest());
        int longest = 0;
        for (int row = 0; row < 6; row++) {
            for (int column = 0; column < 6; column++) {
                String text = Reference.inverse(numbers, row, column);
                longest = Math.max(longest, text.length());
                inverseIs("the longest", Samples.longest(), row, column, text);
            }
        }
        due.number("characters of the longest fraction", longest, 205);
    }

    private void inverseInLeastTerms() {
        inverseIs("4/8", Samples.diagonal(2, 4), 0, 0, "1/2");
        inverseIs("2/8", Samples.diagonal(2, 4), 1, 1, "1/4");
        inverseIs("-6/12", new long[][] {{2, 6}, {0, 6}}, 0, 1, "-1/2");
        inverseIs("6/4", new long[][] {{2, -6}, {0, 2}}, 0, 1, "3/2");
        inverseIs("8/4 is whole", new long[][] {{2, -8}, {0, 2}}, 0, 1, "2");
        inverseIs("-4/4 is whole", new long[][] {{2, 4}, {0, 2}}, 0, 1, "-1");
        inverseIs("large ones in common", Samples.diagonal(TOP, TOP), 0, 0, "1/999999999999999999");
        inverseIs("large ones in common", Samples.diagonal(TOP, TOP, TOP, TOP, TOP, TOP), 5, 5, "1/999999999999999999");
        long lesser = Samples.LESSER_FIBONACCI;
        long greater = Samples.GREATER_FIBONACCI;
        inverseIs("Euclid's longest way", new long[][] {{1, -lesser}, {0, greater}}, 0, 1, lesser + "/" + greater);
    }

    private void inverseShape() {
        Samples.eachShape((rows, columns) -> {
            if (rows == columns) {
                return;
            }
            Desk x = Desk.printed(Samples.numbered(rows, columns));
            due.still(Samples.sides(rows, columns), x, SHAPE, () -> x.inverse(0, 0, 0));
            Desk y = Desk.printed(new long[rows][columns]);
            due.still(Samples.sides(rows, columns) + ", 0 alone", y, SHAPE, () -> y.inverse(0, 0, 0));
        });
    }

    private void inverseNowhere() {
        for (int n = 1; n <= 6; n++) {
            for (int wrong : Samples.beyond(0, n - 1)) {
                for (int right = 0; right < n; right += Math.max(1, n - 1)) {
                    int other = right;
                    Desk x = Desk.printed(Samples.block(n, n, (1 << n) - 1, (1 << n) - 1));
                    due.still(n + " rows, row " + wrong, x, NONE, () -> x.inverse(0, wrong, other));
                    due.still(n + " rows, column " + wrong, x, NONE, () -> x.inverse(0, other, wrong));
                }
                Desk y = Desk.printed(Samples.block(n, n, (1 << n) - 1, (1 << n) - 1));
                due.still(n + " rows, both " + wrong, y, NONE, () -> y.inverse(0, wrong, wrong));
            }
        }
    }

    private void noInverse() {
        for (int n = 1; n <= 6; n++) {
            for (int rank = 0; rank < n; rank++) {
                Desk x = Desk.printed(Samples.diagonal(n, n, rank, 1));
                int last = n - 1;
                due.still(n + " rows, rank " + rank, x, NONE, () -> x.inverse(0, 0, 0));
                due.still(n + " rows, rank " + rank + ", last", x, NONE, () -> x.inverse(0, last, last));
            }
            if (n > 1) {
                Desk y = Desk.printed(Samples.all(n, n, TOP));
                due.still(n + " rows, all the same", y, NONE, () -> y.inverse(0, 0, 0));
            }
        }
        Desk z = Desk.printed(Samples.diagonal(1L << 32, 1L << 32));
        due.prints("a determinant of 2^64 is not 0", z, () -> z.inverse(0, 0, 0), "1/4294967296");
    }

    /** What stays is what was printed latest, whichever call printed it. */
    private void inverseStays() {
        stays("inverse, shape", SHAPE, x -> x.inverse(1, 0, 0));
        stays("inverse, no row", NONE, x -> x.inverse(0, 2, 0));
        stays("inverse, no column", NONE, x -> x.inverse(0, 0, -1));
        stays("inverse, none", NONE, x -> x.inverse(2, 0, 0));
    }

    private interface Refused {
        long by(Desk x);
    }

    private void stays(String what, int answer, Refused call) {
        long[][][] matrices = {{{2, 1}, {0, -3}}, Samples.numbered(2, 3), new long[2][2]};
        Desk x = Desk.with(matrices);
        due.still(what + ", nothing printed", x, answer, () -> call.by(x));
        x.determinant(0);
        due.still(what + ", after determinant", x, answer, () -> call.by(x));
        due.text(what + ", after determinant", x.print(), "-6");
        x.inverse(0, 0, 1);
        due.still(what + ", after inverse", x, answer, () -> call.by(x));
        due.text(what + ", after inverse", x.print(), "1/6");
        x.characteristic(0, 1);
        due.still(what + ", after characteristic", x, answer, () -> call.by(x));
        due.text(what + ", after characteristic", x.print(), "1");
        x.divisor(0, 2);
        due.still(what + ", after divisor", x, answer, () -> call.by(x));
        due.text(what + ", after divisor", x.print(), "6");
    }

    private void characteristic() {
        for (int n = 1; n <= 6; n++) {
            long[][][] all = {new long[n][n], Samples.diagonal(n, n, n, TOP), Samples.diagonal(n, n, n, -TOP),
                Samples.large(n, n), Samples.numbered(n, n)};
            for (long[][] a : all) {
                BigInteger[] c = Reference.characteristic(Reference.of(a));
                for (int k = 0; k <= n; k++) {
                    int asked = k;
                    Desk x = Desk.printed(a);
                    due.prints(n + " rows, c" + k, x, () -> x.characteristic(0, asked), c[k].toString());
                }
            }
        }
        Desk y = Desk.printed(new long[][] {{0, 1}, {-1, 0}});
        due.prints("0 is one character", y, () -> y.characteristic(0, 1), "0");
        Desk z = Desk.printed(Samples.diagonal(1, 2, 3));
        due.prints("'-' below 0", z, () -> z.characteristic(0, 0), "-6");
        due.prints("above 0", z, () -> z.characteristic(0, 1), "11");
        due.prints("all of the diagonal, below 0", z, () -> z.characteristic(0, 2), "-6");
        due.prints("the last is 1", z, () -> z.characteristic(0, 3), "1");
    }

    private void characteristicShape() {
        Samples.eachShape((rows, columns) -> {
            if (rows != columns) {
                for (int k = 0; k <= Math.min(rows, columns); k++) {
                    int asked = k;
                    Desk x = Desk.printed(Samples.numbered(rows, columns));
                    due.still(Samples.sides(rows, columns) + ", k " + k, x, SHAPE, () -> x.characteristic(0, asked));
                }
            }
        });
    }

    private void characteristicNone() {
        for (int n = 1; n <= 6; n++) {
            for (int k : Samples.beyond(0, n)) {
                Desk x = Desk.printed(Samples.numbered(n, n));
                due.still(n + " rows, k " + k, x, NONE, () -> x.characteristic(0, k));
            }
        }
        Desk y = Desk.printed();
        due.still("a new object's last matrix, k 2", y, NONE, () -> y.characteristic(5, 2));
        due.prints("a new object's last matrix, k 1", y, () -> y.characteristic(5, 1), "1");
    }

    private void characteristicStays() {
        stays("characteristic, shape", SHAPE, x -> x.characteristic(1, 0));
        stays("characteristic, no k", NONE, x -> x.characteristic(0, 3));
        stays("characteristic, k below 0", NONE, x -> x.characteristic(0, -1));
        stays("determinant, shape", SHAPE, x -> x.determinant(1));
        stays("divisor, no minors", NONE, x -> x.divisor(1, 3));
        stays("divisor, 0", NONE, x -> x.divisor(0, 0));
        stays("factor, 0", NONE, x -> x.factor(0, 0));
        stays("factor, above the rank", NONE, x -> x.factor(2, 1));
    }

    private void character() {
        Desk x = Desk.with(new long[][] {{-1023456789}}, new long[][] {{2, -7}, {0, 20}});
        String text = "-1023456789";
        due.number("all figures", x.determinant(0), text.length());
        for (int i = 0; i < text.length(); i++) {
            due.number("character " + i, x.character(i), text.charAt(i));
        }
        for (int i = text.length() - 1; i >= 0; i--) {
            due.number("character " + i + ", asked again", x.character(i), text.charAt(i));
        }
        due.number("a fraction", x.inverse(1, 0, 1), 4);
        due.number("its first", x.character(0), '7');
        due.number("its line", x.character(1), '/');
        due.number("its last", x.character(3), '0');
        latestOfTwo();
        callsThatPrintNothing();
    }

    private void latestOfTwo() {
        long[][] wide = Samples.diagonal(6, 6, 6, TOP);
        String large = BigInteger.valueOf(TOP).pow(6).toString();
        Desk x = Desk.with(wide);
        due.printed("a long one", x, x.determinant(0), large);
        due.printed("then a short one", x, x.determinant(1), "0");
        due.number("nothing of the long one is left", x.character(1), MatrixDesk.NONE);
        due.number("nothing of the long one is left", x.character(large.length() - 1), MatrixDesk.NONE);
        due.printed("then a long one again", x, x.divisor(0, 6), large);
        due.printed("then a fraction", x, x.inverse(0, 0, 0), "1/" + TOP);
        due.number("nothing of the long one is left", x.character(20), MatrixDesk.NONE);
        x.put(0, 0, 0, 5);
        due.printed("what was printed stays when its matrix changes", x, 20, "1/" + TOP);
    }

    private void callsThatPrintNothing() {
        Desk x = Desk.printed(new long[][] {{1, 2}, {3, 4}}, new long[][] {{5}, {6}});
        x.make(5, 2, 2);
        x.put(5, 1, 1, 9);
        x.at(5, 1, 1);
        x.size(5, 0);
        x.combine(4, 0, 2, 5, 3);
        x.multiply(4, 0, 5);
        x.turn(4, 0);
        x.rank(0);
        x.hermite(4, 0);
        x.kernel(4, 1);
        x.kernel(4, 2);
        x.solve(4, 0, 1);
        x.same(0, 4);
        x.check(0);
        x.character(0);
        due.printed("after all calls that print nothing", x, 3, "-34");
    }

    private void characterNone() {
        Desk x = Desk.printed(new long[][] {{-12}});
        for (int i : Samples.beyond(0, 2)) {
            due.number("character " + i + " of -34", x.character(i), NONE);
        }
        due.still("the one behind the last", x, NONE, () -> x.character(3));
        due.still("the one before the first", x, NONE, () -> x.character(-1));
        Desk y = new Desk();
        for (int i : Samples.beyond(0, 0)) {
            due.number("character " + i + " of nothing", y.character(i), NONE);
        }
        due.number("character 0 of nothing", y.character(0), NONE);
        y.determinant(0);
        for (int i : Samples.beyond(0, 0)) {
            due.number("character " + i + " of 0", y.character(i), NONE);
        }
        due.number("character 0 of 0", y.character(0), '0');
    }
}
