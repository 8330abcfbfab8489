import java.util.Arrays;

/**
 * Matrices of whole numbers, exactly: sums and products, determinants, ranks, common divisors of
 * minors, the one Hermite form, the numbers of the Smith form, kernels, whole solutions, inverses
 * as fractions, characteristic numbers.
 */
public final class MatrixDesk {
    public static final int NONE = -1;
    public static final int SHAPE = -2;
    public static final int LARGE = -3;

    private static final int MATRICES = 6;
    private static final int MOST = 6;
    private static final long LIMIT = 1000000000000000000L;
    private static final long BASE = 1000000000L;
    private static final int DIGITS = 32;
    private static final int LETTERS = 256;
    private static final int MANY = 1000000;
    private static final int[] UNITS =
        {100000000, 10000000, 1000000, 100000, 10000, 1000, 100, 10, 1};

    private final Matrix[] matrices;
    private final Matrix result;
    private final Print print;
    private final Division division;
    private final Minors minors;
    private final Staircase stairs;
    private final Whole sum;
    private final Whole left;
    private final Whole right;

    public MatrixDesk() {
        matrices = new Matrix[MATRICES];
        for (int m = 0; m < MATRICES; m++) {
            matrices[m] = new Matrix();
        }
        result = new Matrix();
        print = new Print();
        division = new Division();
        minors = new Minors(division);
        stairs = new Staircase(division);
        sum = new Whole();
        left = new Whole();
        right = new Whole();
    }

    public void make(int m, int rows, int columns)
            throws IndexOutOfBoundsException, IllegalArgumentException {
        Matrix made = matrix(m);
        if (rows < 1 || rows > MOST || columns < 1 || columns > MOST) {
            throw new IllegalArgumentException("rows and columns are 1 to 6");
        }
        made.reset(rows, columns);
    }

    public void put(int m, int row, int column, long v)
            throws IndexOutOfBoundsException, IllegalArgumentException {
        Matrix changed = matrixWith(m, row, column);
        if (v >= LIMIT || v <= -LIMIT) {
            throw new IllegalArgumentException("a number is below 10^18 in size");
        }
        changed.write(row, column, v);
    }

    public long at(int m, int row, int column) throws IndexOutOfBoundsException {
        return matrixWith(m, row, column).number(row, column);
    }

    public int size(int m, int what) {
        if (m < 0 || m >= MATRICES) {
            return NONE;
        }
        return what == 0 ? matrices[m].rows : what == 1 ? matrices[m].columns : NONE;
    }

    public int combine(int to, int a, int x, int b, int y) throws IndexOutOfBoundsException {
        Matrix target = matrix(to);
        Matrix first = matrix(a);
        Matrix second = matrix(b);
        if (first.rows != second.rows || first.columns != second.columns) {
            return SHAPE;
        }
        result.reset(first.rows, first.columns);
        for (int row = 0; row < first.rows; row++) {
            for (int column = 0; column < first.columns; column++) {
                sum.clear();
                addToSum(first.number(row, column), x);
                addToSum(second.number(row, column), y);
                if (!sum.fits()) {
                    return LARGE;
                }
                result.write(row, column, sum.value());
            }
        }
        target.become(result);
        return 0;
    }

    public int multiply(int to, int a, int b) throws IndexOutOfBoundsException {
        Matrix target = matrix(to);
        Matrix first = matrix(a);
        Matrix second = matrix(b);
        if (first.columns != second.rows) {
            return SHAPE;
        }
        result.reset(first.rows, second.columns);
        for (int row = 0; row < first.rows; row++) {
            for (int column = 0; column < second.columns; column++) {
                sum.clear();
                for (int i = 0; i < first.columns; i++) {
                    addToSum(first.number(row, i), second.number(i, column));
                }
                if (!sum.fits()) {
                    return LARGE;
                }
                result.write(row, column, sum.value());
            }
        }
        target.become(result);
        return 0;
    }

    public void turn(int to, int a) throws IndexOutOfBoundsException {
        Matrix target = matrix(to);
        Matrix source = matrix(a);
        result.reset(source.columns, source.rows);
        for (int row = 0; row < source.rows; row++) {
            for (int column = 0; column < source.columns; column++) {
                result.write(column, row, source.number(row, column));
            }
        }
        target.become(result);
    }

    public int rank(int m) throws IndexOutOfBoundsException {
        minors.read(matrix(m));
        return minors.independentRows();
    }

    public int hermite(int to, int a) throws IndexOutOfBoundsException {
        Matrix target = matrix(to);
        Matrix source = matrix(a);
        stairs.climb(source, false);
        result.reset(source.rows, source.columns);
        if (!copyStairs(0, 0)) {
            return LARGE;
        }
        int found = stairs.leadsBefore(source.columns);
        target.become(result);
        return found;
    }

    public int kernel(int to, int a) throws IndexOutOfBoundsException {
        Matrix target = matrix(to);
        Matrix source = matrix(a);
        stairs.climb(source, true);
        int skipped = stairs.leadsBefore(source.rows);
        int found = source.columns - skipped;
        if (found < 1) {
            return 0;
        }
        result.reset(found, source.columns);
        if (!copyStairs(skipped, source.rows)) {
            return LARGE;
        }
        target.become(result);
        return found;
    }

    public int solve(int to, int a, int b) throws IndexOutOfBoundsException {
        Matrix target = matrix(to);
        Matrix source = matrix(a);
        Matrix wanted = matrix(b);
        if (wanted.columns != 1 || wanted.rows != source.rows) {
            return SHAPE;
        }
        stairs.climb(source, true);
        Row rest = stairs.spareRow();
        for (int i = 0; i < wanted.rows; i++) {
            rest.numbers[i].become(-wanted.number(i, 0));
        }
        stairs.settle(rest, 0);
        if (rest.lead(source.rows) < source.rows) {
            return 0;
        }
        result.reset(source.columns, 1);
        for (int i = 0; i < source.columns; i++) {
            Whole number = rest.numbers[source.rows + i];
            if (!number.fits()) {
                return LARGE;
            }
            result.write(i, 0, number.value());
        }
        target.become(result);
        return 1;
    }

    public int determinant(int m) throws IndexOutOfBoundsException {
        Matrix source = matrix(m);
        if (source.rows != source.columns) {
            return SHAPE;
        }
        minors.read(source);
        return printWhole(minors.minor(all(source.rows), all(source.rows)));
    }

    public int divisor(int m, int k) throws IndexOutOfBoundsException {
        Matrix source = matrix(m);
        if (k < 1 || k > source.lesserSide()) {
            return NONE;
        }
        minors.read(source);
        minors.commonDivisor(k, sum);
        return printWhole(sum);
    }

    public int factor(int m, int k) throws IndexOutOfBoundsException {
        Matrix source = matrix(m);
        if (k < 1 || k > source.lesserSide()) {
            return NONE;
        }
        minors.read(source);
        minors.commonDivisor(k, left);
        if (left.isZero()) {
            return NONE;
        }
        minors.commonDivisor(k - 1, right);
        division.divide(left, right, sum);
        return printWhole(sum);
    }

    public int inverse(int m, int row, int column) throws IndexOutOfBoundsException {
        Matrix source = matrix(m);
        if (source.rows != source.columns) {
            return SHAPE;
        }
        if (!source.has(row, column)) {
            return NONE;
        }
        minors.read(source);
        int every = all(source.rows);
        right.become(minors.minor(every, every));
        if (right.isZero()) {
            return NONE;
        }
        left.become(minors.minor(every & ~(1 << column), every & ~(1 << row)));
        if ((row + column) % 2 == 1) {
            left.negate();
        }
        printFraction();
        return print.length;
    }

    public int characteristic(int m, int k) throws IndexOutOfBoundsException {
        Matrix source = matrix(m);
        if (source.rows != source.columns) {
            return SHAPE;
        }
        if (k < 0 || k > source.rows) {
            return NONE;
        }
        minors.read(source);
        int taken = source.rows - k;
        minors.principalSum(taken, sum);
        if (taken % 2 == 1) {
            sum.negate();
        }
        return printWhole(sum);
    }

    public int character(int i) {
        return i < 0 || i >= print.length ? NONE : print.letters[i];
    }

    public boolean same(int a, int b) throws IndexOutOfBoundsException {
        Matrix first = matrix(a);
        Matrix second = matrix(b);
        if (first.rows != second.rows || first.columns != second.columns) {
            return false;
        }
        for (int row = 0; row < first.rows; row++) {
            for (int column = 0; column < first.columns; column++) {
                if (first.number(row, column) != second.number(row, column)) {
                    return false;
                }
            }
        }
        return true;
    }

    public int check(int m) throws IndexOutOfBoundsException {
        Matrix source = matrix(m);
        stairs.climb(source, false);
        return stairs.isHermite(source.rows, source.columns) && stepsComeToForm(source)
            && stepsGoBack(source) && stepsHaveUnitDeterminant(source) ? 1 : 0;
    }

    private Matrix matrix(int m) {
        if (m < 0 || m >= MATRICES) {
            throw new IndexOutOfBoundsException("there is no such matrix");
        }
        return matrices[m];
    }

    private Matrix matrixWith(int m, int row, int column) {
        Matrix found = matrix(m);
        if (!found.has(row, column)) {
            throw new IndexOutOfBoundsException("there is no such row or column");
        }
        return found;
    }

    /** The set, as bits, of the first so many rows or columns. */
    private static int all(int count) {
        return (1 << count) - 1;
    }

    private void addToSum(long a, long b) {
        left.become(a);
        right.become(b);
        sum.addProduct(left, right, 1);
    }

    private int printWhole(Whole number) {
        print.clear();
        print.whole(number);
        return print.length;
    }

    /** Prints left over right, right not being 0, in least terms. */
    private void printFraction() {
        boolean below = left.below != right.below && !left.isZero();
        division.lowerTerms(left, right);
        print.clear();
        if (below) {
            print.letter('-');
        }
        print.whole(left);
        if (!right.isOne()) {
            print.letter('/');
            print.whole(right);
        }
    }

    /** Fills the result with what the stairs hold from that row and column on, if it all fits. */
    private boolean copyStairs(int firstRow, int firstColumn) {
        for (int row = 0; row < result.rows; row++) {
            for (int column = 0; column < result.columns; column++) {
                Whole number = stairs.number(firstRow + row, firstColumn + column);
                if (!number.fits()) {
                    return false;
                }
                result.write(row, column, number.value());
            }
        }
        return true;
    }

    private boolean stepsComeToForm(Matrix source) {
        for (int row = 0; row < source.rows; row++) {
            for (int column = 0; column < source.columns; column++) {
                sum.clear();
                for (int i = 0; i < source.rows; i++) {
                    left.become(source.number(i, column));
                    sum.addProduct(left, stairs.number(row, source.columns + i), 1);
                }
                sum.add(stairs.number(row, column), -1);
                if (!sum.isZero()) {
                    return false;
                }
            }
        }
        return true;
    }

    /** Whether each row that the steps began with is made of whole multiples of the last rows. */
    private boolean stepsGoBack(Matrix source) {
        int end = source.columns + source.rows;
        for (int i = 0; i < source.rows; i++) {
            Row rest = stairs.spareRow();
            stairs.load(rest, source, i, false);
            stairs.settle(rest, 0);
            if (rest.lead(end) < end) {
                return false;
            }
        }
        return true;
    }

    private boolean stepsHaveUnitDeterminant(Matrix source) {
        minors.readSquare(stairs, source.columns, source.rows);
        sum.become(minors.minor(all(source.rows), all(source.rows)));
        sum.below = false;
        return sum.isOne();
    }

    /** Up to six rows and columns of numbers below 10^18 in size. */
    private static final class Matrix {
        private final long[] numbers;
        private int rows;
        private int columns;

        Matrix() {
            numbers = new long[MOST * MOST];
            rows = 1;
            columns = 1;
        }

        void reset(int newRows, int newColumns) {
            rows = newRows;
            columns = newColumns;
            Arrays.fill(numbers, 0L);
        }

        void become(Matrix other) {
            rows = other.rows;
            columns = other.columns;
            System.arraycopy(other.numbers, 0, numbers, 0, numbers.length);
        }

        boolean has(int row, int column) {
            return row >= 0 && row < rows && column >= 0 && column < columns;
        }

        int lesserSide() {
            return Math.min(rows, columns);
        }

        long number(int row, int column) {
            return has(row, column) ? numbers[row * MOST + column] : 0L;
        }

        void write(int row, int column, long v) {
            if (has(row, column)) {
                numbers[row * MOST + column] = v;
            }
        }
    }

    /** A whole number of any size that is changed in place, so that no call makes new ones. */
    private static final class Whole {
        /** LIFT is added where a sum may lie below 0, so that / rounds down; a carry has LIFT_UP of it. */
        private static final long LIFT_UP = BASE + 2;
        private static final long LIFT = LIFT_UP * BASE;

        private int[] digits;
        private int length;
        private boolean below;

        Whole() {
            digits = new int[DIGITS];
        }

        void clear() {
            length = 0;
            below = false;
        }

        void become(long v) {
            clear();
            widen(3);
            long rest = v;
            for (int i = 0; i < 3; i++) {
                digits[i] = (int) Math.abs(rest % BASE);
                rest /= BASE;
            }
            trim(3);
            below = v < 0;
        }

        void become(Whole other) {
            if (other.length > digits.length) {
                digits = new int[other.length + DIGITS];
            }
            System.arraycopy(other.digits, 0, digits, 0, other.length);
            length = other.length;
            below = other.below;
        }

        boolean isZero() {
            return length == 0;
        }

        boolean isOne() {
            return length == 1 && digits[0] == 1 && !below;
        }

        /** Whether it is below 10^18 in size, as the numbers of a matrix are. */
        boolean fits() {
            return length <= 2;
        }

        /** The number itself, if it fits. */
        long value() {
            long size = length > 0 ? digits[0] : 0L;
            if (length > 1) {
                size += digits[1] * BASE;
            }
            return below ? -size : size;
        }

        void negate() {
            below = length > 0 && !below;
        }

        /** By size, whatever the signs are. */
        boolean isSmallerThan(Whole other) {
            if (length != other.length) {
                return length < other.length;
            }
            for (int i = length - 1; i >= 0; i--) {
                if (digits[i] != other.digits[i]) {
                    return digits[i] < other.digits[i];
                }
            }
            return false;
        }

        /** Adds another number, or takes it away if sign is -1. */
        void add(Whole a, int sign) {
            int top = Math.max(length, a.length) + 2;
            widen(top);
            addLine(a, below == a.below ? sign : -sign, 0, top);
            straighten(top);
        }

        /** Adds a times b, or takes it away if sign is -1, both being other numbers than this one. */
        void addProduct(Whole a, Whole b, int sign) {
            if (a.length == 0 || b.length == 0) {
                return;
            }
            int top = Math.max(length, a.length + b.length) + 1;
            widen(top);
            boolean alike = (a.below == b.below) != below;
            long along = alike ? sign : -sign;
            for (int i = 0; i < a.length; i++) {
                addLine(b, along * a.digits[i], i, top);
            }
            straighten(top);
        }

        /**
         * Adds the size of a, times factor and BASE to the power of shift, to the digits below top.
         * The digit below top may fall below 0 and then tells that the whole is below 0.
         */
        private void addLine(Whole a, long factor, int shift, int top) {
            long carry = 0;
            int k = shift;
            for (int i = 0; i < a.length; i++) {
                long lifted = digits[k] + factor * a.digits[i] + carry + LIFT;
                long up = lifted / BASE;
                digits[k] = (int) (lifted - up * BASE);
                carry = up - LIFT_UP;
                k++;
            }
            for (; carry != 0 && k < top - 1; k++) {
                long lifted = digits[k] + carry + LIFT;
                long up = lifted / BASE;
                digits[k] = (int) (lifted - up * BASE);
                carry = up - LIFT_UP;
            }
            digits[top - 1] += (int) carry;
        }

        /** Makes the digits below top a size again, turning the sign where they fell below 0. */
        private void straighten(int top) {
            if (digits[top - 1] < 0) {
                below = !below;
                long carry = 0;
                for (int i = 0; i < top; i++) {
                    long digit = carry - digits[i];
                    carry = digit < 0 ? -1 : 0;
                    digits[i] = (int) (digit < 0 ? digit + BASE : digit);
                }
            }
            trim(top);
        }

        /** There must be room for one digit more. */
        private void timesDigit(long digit) {
            long carry = 0;
            for (int i = 0; i <= length; i++) {
                carry += digits[i] * digit;
                digits[i] = (int) (carry % BASE);
                carry /= BASE;
            }
            trim(length + 1);
        }

        /** Divides its size by the digit, which is above 0, and tells the rest. */
        private long overDigit(long digit) {
            long rest = 0;
            for (int i = length - 1; i >= 0; i--) {
                rest = rest * BASE + digits[i];
                digits[i] = (int) (rest / digit);
                rest %= digit;
            }
            trim(length);
            return rest;
        }

        /** Makes room for so many digits, those behind its own being 0. */
        private void widen(int needed) {
            if (needed > digits.length) {
                digits = Arrays.copyOf(digits, needed + DIGITS);
            }
            if (needed > length) {
                Arrays.fill(digits, length, needed, 0);
            }
        }

        private void trim(int top) {
            length = top;
            while (length > 0 && digits[length - 1] == 0) {
                length--;
            }
            below = below && length > 0;
        }
    }

    /** Division and common divisors, with the numbers that they need on the way. */
    private static final class Division {
        private final Whole scaled;
        private final Whole quotient;
        private final Whole common;
        private final Whole other;
        private final Whole one;

        Division() {
            scaled = new Whole();
            quotient = new Whole();
            common = new Whole();
            other = new Whole();
            one = new Whole();
            one.become(1L);
        }

        /**
         * Divides a number by one above 0, rounding down; the number becomes the rest, which is
         * from 0 to below the divisor. All three are different objects.
         */
        void divide(Whole number, Whole divisor, Whole answer) {
            answer.clear();
            if (divisor.isZero()) {
                return;
            }
            boolean below = number.below;
            number.below = false;
            if (divisor.length == 1) {
                answer.become(number);
                number.become(answer.overDigit(divisor.digits[0]));
            } else if (!number.isSmallerThan(divisor)) {
                divideLong(number, divisor, answer);
            }
            if (below && !number.isZero()) {
                number.negate();
                number.add(divisor, 1);
                answer.add(one, 1);
            }
            if (below) {
                answer.negate();
            }
        }

        /** Both are scaled first so that the divisor's first digit is large and guesses are good. */
        private void divideLong(Whole number, Whole divisor, Whole answer) {
            int width = divisor.length;
            long scale = BASE / (divisor.digits[width - 1] + 1L);
            scaled.become(divisor);
            scaled.widen(width + 1);
            scaled.timesDigit(scale);
            number.widen(number.length + 2);
            number.timesDigit(scale);
            int first = number.length - width;
            answer.widen(first + 1);
            for (int i = first; i >= 0; i--) {
                long digit = guess(number, i + width);
                number.addLine(scaled, -digit, i, i + width + 1);
                if (number.digits[i + width] < 0) {
                    number.addLine(scaled, 1, i, i + width + 1);
                    digit--;
                }
                answer.digits[i] = (int) digit;
            }
            answer.trim(first + 1);
            number.trim(width);
            number.overDigit(scale);
        }

        /** The quotient's next digit, or one above it, by the first three digits of what is left. */
        private long guess(Whole number, int top) {
            long divisor = scaled.digits[scaled.length - 1];
            long second = scaled.digits[scaled.length - 2];
            long start = number.digits[top] * BASE + number.digits[top - 1];
            long digit = start / divisor;
            long rest = start % divisor;
            for (int turn = 0; turn < 2 && rest < BASE; turn++) {
                if (digit >= BASE || digit * second > rest * BASE + number.digits[top - 2]) {
                    digit--;
                    rest += divisor;
                }
            }
            return digit;
        }

        /** Number a becomes the greatest common divisor of a and b; b is used up. */
        void commonDivisor(Whole a, Whole b) {
            a.below = false;
            b.below = false;
            Whole greater = a;
            Whole lesser = b;
            for (int step = 0; step < MANY && !lesser.isZero(); step++) {
                divide(greater, lesser, quotient);
                Whole rest = greater;
                greater = lesser;
                lesser = rest;
            }
            a.become(greater);
        }

        /** Divides both, of which the second is not 0, by what they have in common, without signs. */
        void lowerTerms(Whole above, Whole under) {
            common.become(above);
            other.become(under);
            commonDivisor(common, other);
            lower(above);
            lower(under);
        }

        private void lower(Whole term) {
            term.below = false;
            divide(term, common, quotient);
            term.become(quotient);
        }
    }

    /** What was printed latest. */
    private static final class Print {
        private final char[] letters;
        private int length;

        Print() {
            letters = new char[LETTERS];
        }

        void clear() {
            length = 0;
        }

        void letter(char c) {
            if (length < letters.length) {
                letters[length] = c;
                length++;
            }
        }

        void whole(Whole number) {
            if (number.below) {
                letter('-');
            }
            if (number.isZero()) {
                letter('0');
            }
            boolean started = false;
            for (int i = number.length - 1; i >= 0; i--) {
                for (int unit : UNITS) {
                    int figure = number.digits[i] / unit % 10;
                    started = started || figure != 0;
                    if (started) {
                        letter((char) ('0' + figure));
                    }
                }
            }
        }
    }

    /** Minors of one matrix. Sets of rows and of columns are bits of an int. */
    private static final class Minors {
        private final Division division;
        private final Whole[] numbers;
        /** For a set of columns: the minor in these of the rows that were taken in. */
        private final Whole[] minorIn;
        private int rows;
        private int columns;

        Minors(Division shared) {
            division = shared;
            numbers = new Whole[MOST * MOST];
            for (int i = 0; i < numbers.length; i++) {
                numbers[i] = new Whole();
            }
            minorIn = new Whole[1 << MOST];
            for (int set = 0; set < minorIn.length; set++) {
                minorIn[set] = new Whole();
            }
            minorIn[0].become(1L);
        }

        void read(Matrix source) {
            rows = source.rows;
            columns = source.columns;
            for (int row = 0; row < rows; row++) {
                for (int column = 0; column < columns; column++) {
                    numbers[row * MOST + column].become(source.number(row, column));
                }
            }
        }

        /** Reads as many rows as columns of the stairs, from that column on. */
        void readSquare(Staircase source, int firstColumn, int count) {
            rows = count;
            columns = count;
            for (int row = 0; row < rows; row++) {
                for (int column = 0; column < columns; column++) {
                    numbers[row * MOST + column].become(source.number(row, firstColumn + column));
                }
            }
        }

        /** The minor of as many rows as columns; it stays right until the next minor is asked for. */
        Whole minor(int rowSet, int columnSet) {
            takeRows(rowSet, columnSet);
            return minorIn[columnSet];
        }

        /** The rank: a row is counted if it and those counted before have a minor that is not 0. */
        int independentRows() {
            int every = all(columns);
            int count = 0;
            for (int row = 0; row < rows && count < columns; row++) {
                takeRow(row, count + 1, every);
                if (hasMinor(count + 1)) {
                    count++;
                }
            }
            return count;
        }

        void commonDivisor(int k, Whole found) {
            found.become(k == 0 ? 1L : 0L);
            int every = all(columns);
            for (int rowSet = 1; rowSet <= all(rows); rowSet++) {
                if (Integer.bitCount(rowSet) == k) {
                    takeRows(rowSet, every);
                    for (int set = 1; set <= every; set++) {
                        if (Integer.bitCount(set) == k) {
                            division.commonDivisor(found, minorIn[set]);
                        }
                    }
                }
            }
        }

        /** The sum of all minors of k rows and the same k columns. */
        void principalSum(int k, Whole found) {
            found.become(k == 0 ? 1L : 0L);
            for (int set = 1; set <= all(rows); set++) {
                if (Integer.bitCount(set) == k) {
                    found.add(minor(set, set), 1);
                }
            }
        }

        private void takeRows(int rowSet, int within) {
            int count = 0;
            for (int row = 0; row < rows; row++) {
                if ((rowSet >> row & 1) == 1) {
                    count++;
                    takeRow(row, count, within);
                }
            }
        }

        /**
         * The row is taken in as the last one of so many: along it, a minor comes from those of
         * one row less, which are there already.
         */
        private void takeRow(int row, int count, int within) {
            for (int set = 1; set <= within; set++) {
                if ((set & ~within) != 0 || Integer.bitCount(set) != count) {
                    continue;
                }
                minorIn[set].clear();
                int sign = count % 2 == 1 ? 1 : -1;
                for (int column = 0; column < columns; column++) {
                    int bit = 1 << column;
                    if ((set & bit) != 0) {
                        minorIn[set].addProduct(numbers[row * MOST + column], minorIn[set ^ bit], sign);
                        sign = -sign;
                    }
                }
            }
        }

        private boolean hasMinor(int count) {
            for (int set = 1; set <= all(columns); set++) {
                if (Integer.bitCount(set) == count && !minorIn[set].isZero()) {
                    return true;
                }
            }
            return false;
        }
    }

    private static final class Row {
        private final Whole[] numbers;

        Row() {
            numbers = new Whole[2 * MOST];
            for (int i = 0; i < numbers.length; i++) {
                numbers[i] = new Whole();
            }
        }

        void clear() {
            for (int i = 0; i < numbers.length; i++) {
                numbers[i].clear();
            }
        }

        void turnSigns() {
            for (int i = 0; i < numbers.length; i++) {
                numbers[i].negate();
            }
        }

        /** The column of the first number that is not 0, or the end if all before it are 0. */
        int lead(int end) {
            int column = 0;
            while (column < end && numbers[column].isZero()) {
                column++;
            }
            return column;
        }
    }

    /**
     * The Hermite form of a matrix with a diagonal of 1 written behind it. Behind the form stand,
     * in the end, the multiples of the old rows that each new row is made of; and behind rows of
     * 0 alone stands the Hermite form of all that gives 0.
     *
     * Rows are taken in one by one, and those that are there are kept in Hermite form meanwhile:
     * so numbers stay about as small as minors are.
     */
    private static final class Staircase {
        private final Division division;
        private final Whole quotient;
        /** The rows in the order of their leads, and behind them one spare row. */
        private final Row[] rows;
        private final int[] leads;
        private int count;
        private int width;

        Staircase(Division shared) {
            division = shared;
            quotient = new Whole();
            rows = new Row[MOST + 1];
            for (int i = 0; i < rows.length; i++) {
                rows[i] = new Row();
            }
            leads = new int[MOST + 1];
        }

        void climb(Matrix source, boolean turned) {
            int height = turned ? source.columns : source.rows;
            width = source.rows + source.columns;
            count = 0;
            for (int i = 0; i < height; i++) {
                load(rows[count], source, i, turned);
                int place = 0;
                while (place < count && leads[place] <= rows[count].lead(width)) {
                    meet(place);
                    settle(rows[place], place + 1);
                    settle(rows[count], place + 1);
                    place++;
                }
                keepSpare(place);
                for (int above = count - 2; above >= 0; above--) {
                    settle(rows[above], above + 1);
                }
            }
        }

        /** The row becomes row i of the matrix, or its column i if turned, and row i of the diagonal. */
        void load(Row row, Matrix source, int i, boolean turned) {
            int front = turned ? source.rows : source.columns;
            row.clear();
            for (int j = 0; j < front; j++) {
                row.numbers[j].become(turned ? source.number(j, i) : source.number(i, j));
            }
            row.numbers[front + i].become(1L);
        }

        Row spareRow() {
            rows[count].clear();
            return rows[count];
        }

        Whole number(int row, int column) {
            return rows[row].numbers[column];
        }

        int leadsBefore(int column) {
            int found = 0;
            for (int i = 0; i < count; i++) {
                if (leads[i] < column) {
                    found++;
                }
            }
            return found;
        }

        /** Brings the row's numbers in the columns of these leads to 0 up to below the lead. */
        void settle(Row row, int firstRow) {
            for (int i = firstRow; i < count; i++) {
                lower(row, rows[i], leads[i]);
            }
        }

        /** Whether the front columns are a Hermite form, seen by its definition alone. */
        boolean isHermite(int height, int front) {
            int last = -1;
            for (int i = 0; i < height; i++) {
                int lead = rows[i].lead(front);
                if (lead < front && (lead <= last || !isLead(i, lead))) {
                    return false;
                }
                last = lead;
            }
            return true;
        }

        private boolean isLead(int row, int column) {
            Whole lead = number(row, column);
            if (lead.below) {
                return false;
            }
            for (int i = 0; i < row; i++) {
                Whole above = number(i, column);
                if (above.below || !above.isSmallerThan(lead)) {
                    return false;
                }
            }
            return true;
        }

        /** Goes Euclid's way with whole rows, until the spare row has a 0 in the column of the lead. */
        private void meet(int place) {
            int column = leads[place];
            lower(rows[count], rows[place], column);
            for (int step = 0; step < MANY && !rows[count].numbers[column].isZero(); step++) {
                Row lesser = rows[count];
                rows[count] = rows[place];
                rows[place] = lesser;
                lower(rows[count], rows[place], column);
            }
        }

        /** Puts the spare row where its lead belongs; with the diagonal it is never 0 alone. */
        private void keepSpare(int place) {
            Row kept = rows[count];
            int lead = kept.lead(width);
            if (lead == width) {
                return;
            }
            if (kept.numbers[lead].below) {
                kept.turnSigns();
            }
            for (int i = count; i > place; i--) {
                rows[i] = rows[i - 1];
                leads[i] = leads[i - 1];
            }
            rows[place] = kept;
            leads[place] = lead;
            count++;
        }

        /** Takes a multiple of the other row, whose lead is in that column, away from the row. */
        private void lower(Row row, Row other, int column) {
            division.divide(row.numbers[column], other.numbers[column], quotient);
            if (!quotient.isZero()) {
                for (int j = column + 1; j < width; j++) {
                    row.numbers[j].addProduct(quotient, other.numbers[j], -1);
                }
            }
        }
    }
}
