import java.math.BigInteger;

/** Numbers and matrices at the edges of what is allowed. */
final class Samples {
    static final long TOP = 999999999999999999L;
    static final long LIMIT = TOP + 1;
    /** A thousand million: its square is LIMIT, and one less times one more is TOP. */
    static final long ROOT = 1000000000L;
    static final int[] SIGNS = {1, -1};
    static final long[][] ZERO = {{0}};
    /** The largest two numbers of Fibonacci's row that are allowed: Euclid's longest way. */
    static final long LESSER_FIBONACCI = 420196140727489673L;
    static final long GREATER_FIBONACCI = 679891637638612258L;

    interface Shape {
        void look(int rows, int columns);
    }

    private Samples() {
    }

    /** What lies before the first and behind the last: the next ones, and those at which numbers wrap around. */
    static int[] beyond(int first, int last) {
        return new int[] {first - 1, last + 1, first - 2, last + 2, 256 + first, 65536 + first, -65536 + first,
            Integer.MIN_VALUE, Integer.MIN_VALUE + 1, Integer.MAX_VALUE};
    }

    static void eachShape(Shape shape) {
        for (int rows = 1; rows <= 6; rows++) {
            for (int columns = 1; columns <= 6; columns++) {
                shape.look(rows, columns);
            }
        }
    }

    static String sides(int rows, int columns) {
        return rows + " rows, " + columns + " columns";
    }

    /** Numbers that are all different, of both signs. */
    static long[][] numbered(int rows, int columns) {
        long[][] a = new long[rows][columns];
        for (int i = 0; i < rows; i++) {
            for (int j = 0; j < columns; j++) {
                a[i][j] = (1 + 6 * i + j) * ((i + j) % 2 == 0 ? 1 : -1);
            }
        }
        return a;
    }

    static long[][] all(int rows, int columns, long v) {
        long[][] a = new long[rows][columns];
        for (long[] row : a) {
            java.util.Arrays.fill(row, v);
        }
        return a;
    }

    /** All 0 but one number. */
    static long[][] one(int rows, int columns, int row, int column, long v) {
        long[][] a = new long[rows][columns];
        a[row][column] = v;
        return a;
    }

    /** The number so many times along the diagonal. */
    static long[][] diagonal(int rows, int columns, int count, long v) {
        long[][] a = new long[rows][columns];
        for (int i = 0; i < count; i++) {
            a[i][i] = v;
        }
        return a;
    }

    static long[][] diagonal(long... numbers) {
        long[][] a = new long[numbers.length][numbers.length];
        for (int i = 0; i < numbers.length; i++) {
            a[i][i] = numbers[i];
        }
        return a;
    }

    static long[][] column(long... numbers) {
        long[][] a = new long[numbers.length][1];
        for (int i = 0; i < numbers.length; i++) {
            a[i][0] = numbers[i];
        }
        return a;
    }

    static long[][] row(long... numbers) {
        return new long[][] {numbers};
    }

    /**
     * Six rows and columns of the largest size whose determinant is the largest one of all: 160
     * times the sixth power of it. Two circles of signs and what stands against them.
     */
    static long[][] widest(long size) {
        long[][] a = new long[6][6];
        for (int i = 0; i < 3; i++) {
            for (int j = 0; j < 3; j++) {
                long circle = i == j ? -size : size;
                a[i][j] = size;
                a[i + 3][j + 3] = size;
                a[i][j + 3] = circle;
                a[i + 3][j] = -circle;
            }
        }
        return a;
    }

    /**
     * Numbers of nearly the largest size, in whose inverse stand the longest fractions of all: a
     * sign, 92 figures, a line and 111 figures.
     */
    static long[][] longest() {
        long[][] a = widest(1);
        for (int i = 0; i < 6; i++) {
            for (int j = 0; j < 6; j++) {
                a[i][j] *= TOP - (7 * i + j + i * j) % 13;
            }
        }
        return a;
    }

    /** Numbers of the largest size, below 0 above the diagonal, with different last figures; the rank is full. */
    static long[][] large(int rows, int columns) {
        long[][] a = new long[rows][columns];
        for (int i = 0; i < rows; i++) {
            for (int j = 0; j < columns; j++) {
                a[i][j] = (j > i ? -1 : 1) * (TOP - (i * 31 + j * 17 + i * j * 7) % 23);
            }
        }
        return a;
    }

    /** In these rows and columns a block with determinant 7; without its last row and column it has 1. */
    static long[][] block(int rows, int columns, int rowSet, int columnSet) {
        long[][] a = new long[rows][columns];
        int k = Integer.bitCount(rowSet);
        int i = 0;
        for (int row = 0; row < rows; row++) {
            if ((rowSet >> row & 1) == 0) {
                continue;
            }
            int j = 0;
            for (int column = 0; column < columns; column++) {
                if ((columnSet >> column & 1) == 1) {
                    a[row][column] = Math.min(i, j) + 1 + (i == k - 1 && j == k - 1 ? 6 : 0);
                    j++;
                }
            }
            i++;
        }
        return a;
    }

    static long[][] copy(long[][] a) {
        long[][] b = new long[a.length][];
        for (int i = 0; i < a.length; i++) {
            b[i] = a[i].clone();
        }
        return b;
    }

    static long[][] times(long[][] a, long factor) {
        long[][] b = copy(a);
        for (long[] row : b) {
            for (int j = 0; j < row.length; j++) {
                row[j] *= factor;
            }
        }
        return b;
    }

    static long[][] turned(long[][] a) {
        long[][] b = new long[a[0].length][a.length];
        for (int i = 0; i < a.length; i++) {
            for (int j = 0; j < a[0].length; j++) {
                b[j][i] = a[i][j];
            }
        }
        return b;
    }

    static boolean fits(BigInteger[][] a) {
        for (BigInteger[] row : a) {
            for (BigInteger number : row) {
                if (number.abs().compareTo(BigInteger.valueOf(LIMIT)) >= 0) {
                    return false;
                }
            }
        }
        return true;
    }

    static long[][] longs(BigInteger[][] a) {
        long[][] numbers = new long[a.length][a[0].length];
        for (int i = 0; i < a.length; i++) {
            for (int j = 0; j < a[0].length; j++) {
                numbers[i][j] = a[i][j].longValueExact();
            }
        }
        return numbers;
    }
}
