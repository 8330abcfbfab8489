import java.math.BigInteger;

/** The document's terms over BigInteger, by other ways than the program goes. */
final class Reference {
    private static final BigInteger ZERO = BigInteger.ZERO;
    private static final BigInteger ONE = BigInteger.ONE;

    private Reference() {
    }

    static BigInteger[][] of(long[][] numbers) {
        BigInteger[][] a = new BigInteger[numbers.length][numbers[0].length];
        for (int i = 0; i < a.length; i++) {
            for (int j = 0; j < a[i].length; j++) {
                a[i][j] = BigInteger.valueOf(numbers[i][j]);
            }
        }
        return a;
    }

    static BigInteger[][] zero(int rows, int columns) {
        return of(new long[rows][columns]);
    }

    static BigInteger[][] copy(BigInteger[][] a) {
        BigInteger[][] b = new BigInteger[a.length][];
        for (int i = 0; i < a.length; i++) {
            b[i] = a[i].clone();
        }
        return b;
    }

    static BigInteger[][] combine(BigInteger[][] a, long x, BigInteger[][] b, long y) {
        BigInteger[][] c = zero(a.length, a[0].length);
        for (int i = 0; i < a.length; i++) {
            for (int j = 0; j < a[0].length; j++) {
                c[i][j] = a[i][j].multiply(BigInteger.valueOf(x)).add(b[i][j].multiply(BigInteger.valueOf(y)));
            }
        }
        return c;
    }

    static BigInteger[][] multiply(BigInteger[][] a, BigInteger[][] b) {
        BigInteger[][] c = zero(a.length, b[0].length);
        for (int i = 0; i < a.length; i++) {
            for (int j = 0; j < b[0].length; j++) {
                for (int k = 0; k < b.length; k++) {
                    c[i][j] = c[i][j].add(a[i][k].multiply(b[k][j]));
                }
            }
        }
        return c;
    }

    static BigInteger[][] turn(BigInteger[][] a) {
        BigInteger[][] b = zero(a[0].length, a.length);
        for (int i = 0; i < a.length; i++) {
            for (int j = 0; j < a[0].length; j++) {
                b[j][i] = a[i][j];
            }
        }
        return b;
    }

    private static void addRow(BigInteger[][] a, int to, int from, BigInteger times) {
        for (int j = 0; j < a[0].length; j++) {
            a[to][j] = a[to][j].add(a[from][j].multiply(times));
        }
    }

    private static BigInteger floor(BigInteger a, BigInteger b) {
        BigInteger[] both = a.divideAndRemainder(b);
        return both[1].signum() < 0 ? both[0].subtract(ONE) : both[0];
    }

    /** Column by column, Euclid's way over all rows at once. */
    static BigInteger[][] hermite(BigInteger[][] source) {
        BigInteger[][] a = copy(source);
        int done = 0;
        for (int column = 0; column < a[0].length && done < a.length; column++) {
            int least = least(a, done, column);
            while (least >= 0) {
                BigInteger[] row = a[least];
                a[least] = a[done];
                a[done] = row;
                for (int i = done + 1; i < a.length; i++) {
                    addRow(a, i, done, a[i][column].divide(a[done][column]).negate());
                }
                least = least(a, done + 1, column);
            }
            if (a[done][column].signum() == 0) {
                continue;
            }
            if (a[done][column].signum() < 0) {
                addRow(a, done, done, BigInteger.valueOf(-2));
            }
            for (int i = 0; i < done; i++) {
                addRow(a, i, done, floor(a[i][column], a[done][column]).negate());
            }
            done++;
        }
        return a;
    }

    /** The row from `from` on whose number in the column is the least in size but not 0, or -1. */
    private static int least(BigInteger[][] a, int from, int column) {
        int found = -1;
        for (int i = from; i < a.length; i++) {
            if (a[i][column].signum() != 0
                    && (found < 0 || a[i][column].abs().compareTo(a[found][column].abs()) < 0)) {
                found = i;
            }
        }
        return found;
    }

    static int rank(BigInteger[][] a) {
        int rank = 0;
        for (BigInteger[] row : hermite(a)) {
            rank += lead(row) < row.length ? 1 : 0;
        }
        return rank;
    }

    static int lead(BigInteger[] row) {
        int j = 0;
        while (j < row.length && row[j].signum() == 0) {
            j++;
        }
        return j;
    }

    /** Fraction-free elimination. */
    static BigInteger determinant(BigInteger[][] source) {
        BigInteger[][] a = copy(source);
        int n = a.length;
        BigInteger last = ONE;
        int sign = 1;
        for (int k = 0; k < n; k++) {
            int pivot = k;
            while (pivot < n && a[pivot][k].signum() == 0) {
                pivot++;
            }
            if (pivot == n) {
                return ZERO;
            }
            if (pivot != k) {
                BigInteger[] row = a[pivot];
                a[pivot] = a[k];
                a[k] = row;
                sign = -sign;
            }
            for (int i = k + 1; i < n; i++) {
                for (int j = k + 1; j < n; j++) {
                    a[i][j] = a[i][j].multiply(a[k][k]).subtract(a[i][k].multiply(a[k][j])).divide(last);
                }
            }
            last = a[k][k];
        }
        return sign < 0 ? a[n - 1][n - 1].negate() : a[n - 1][n - 1];
    }

    /** The factors by turning Hermite forms until a diagonal is left; those above the rank are 0. */
    static BigInteger[] factors(BigInteger[][] source) {
        BigInteger[][] a = copy(source);
        while (!isDiagonal(a)) {
            a = turn(hermite(a));
        }
        int n = Math.min(a.length, a[0].length);
        BigInteger[] f = new BigInteger[n];
        for (int i = 0; i < n; i++) {
            f[i] = a[i][i].abs();
        }
        for (int i = 0; i < n; i++) {
            for (int j = i + 1; j < n; j++) {
                BigInteger common = f[i].gcd(f[j]);
                if (common.signum() != 0) {
                    f[j] = f[i].divide(common).multiply(f[j]);
                    f[i] = common;
                }
            }
        }
        return f;
    }

    private static boolean isDiagonal(BigInteger[][] a) {
        for (int i = 0; i < a.length; i++) {
            for (int j = 0; j < a[0].length; j++) {
                if (i != j && a[i][j].signum() != 0) {
                    return false;
                }
            }
        }
        return true;
    }

    static BigInteger divisor(BigInteger[][] a, int k) {
        BigInteger product = ONE;
        BigInteger[] f = factors(a);
        for (int i = 0; i < k; i++) {
            product = product.multiply(f[i]);
        }
        return product;
    }

    /** The rows of whole numbers that the turned matrix, with a diagonal behind it, leaves for 0. */
    static BigInteger[][] kernel(BigInteger[][] a) {
        int n = a[0].length;
        BigInteger[][] both = zero(n, a.length + n);
        for (int i = 0; i < n; i++) {
            for (int j = 0; j < a.length; j++) {
                both[i][j] = a[j][i];
            }
            both[i][a.length + i] = ONE;
        }
        both = hermite(both);
        int rank = rank(a);
        BigInteger[][] basis = new BigInteger[n - rank][n];
        for (int i = 0; i < basis.length; i++) {
            System.arraycopy(both[rank + i], a.length, basis[i], 0, n);
        }
        return basis;
    }

    /** The first solution, or null: whole ones are there just if b changes no rank and no D(rank). */
    static BigInteger[][] solve(BigInteger[][] a, BigInteger[][] b) {
        int n = a[0].length;
        BigInteger[][] both = zero(a.length, n + 1);
        for (int i = 0; i < a.length; i++) {
            System.arraycopy(a[i], 0, both[i], 0, n);
            both[i][n] = b[i][0].negate();
        }
        int rank = rank(a);
        if (rank(both) != rank || !divisor(a, rank).equals(divisor(both, rank))) {
            return null;
        }
        BigInteger[][] x = zero(n, 1);
        BigInteger[] whole = solutionRow(kernel(both), n);
        for (int i = 0; i < n; i++) {
            x[i][0] = whole[i];
        }
        for (BigInteger[] row : kernel(a)) {
            int lead = lead(row);
            BigInteger times = floor(x[lead][0], row[lead]);
            for (int i = 0; i < n; i++) {
                x[i][0] = x[i][0].subtract(times.multiply(row[i]));
            }
        }
        return x;
    }

    /** A row of the kernel of A and -b that ends in 1: x and 1. */
    private static BigInteger[] solutionRow(BigInteger[][] basis, int n) {
        BigInteger[][] lastFirst = new BigInteger[basis.length][n + 1];
        for (int i = 0; i < basis.length; i++) {
            for (int j = 0; j <= n; j++) {
                lastFirst[i][j] = basis[i][n - j];
            }
        }
        BigInteger[] row = hermite(lastFirst)[0];
        if (!row[0].equals(ONE)) {
            throw new IllegalStateException("the reference finds no solution where there is one");
        }
        BigInteger[] x = new BigInteger[n];
        for (int j = 0; j < n; j++) {
            x[j] = row[n - j];
        }
        return x;
    }

    static String inverse(BigInteger[][] a, int row, int column) {
        int n = a.length;
        BigInteger[][] replaced = copy(a);
        for (int i = 0; i < n; i++) {
            replaced[i][row] = i == column ? ONE : ZERO;
        }
        BigInteger above = determinant(replaced);
        BigInteger under = determinant(a);
        BigInteger common = above.gcd(under);
        if (under.signum() < 0) {
            common = common.negate();
        }
        above = above.divide(common);
        under = under.divide(common);
        return under.equals(ONE) ? above.toString() : above + "/" + under;
    }

    /** By Faddeev and Le Verrier. */
    static BigInteger[] characteristic(BigInteger[][] a) {
        int n = a.length;
        BigInteger[] c = new BigInteger[n + 1];
        c[n] = ONE;
        BigInteger[][] m = zero(n, n);
        for (int k = 1; k <= n; k++) {
            m = multiply(a, m);
            for (int i = 0; i < n; i++) {
                m[i][i] = m[i][i].add(c[n - k + 1]);
            }
            BigInteger trace = ZERO;
            BigInteger[][] product = multiply(a, m);
            for (int i = 0; i < n; i++) {
                trace = trace.add(product[i][i]);
            }
            c[n - k] = trace.negate().divide(BigInteger.valueOf(k));
        }
        return c;
    }
}
