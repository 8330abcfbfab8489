/** Each promise of the document by hand: ordinary inputs, edges, wrong inputs. */
public final class PromisesTest {
    private static final Class<IndexOutOfBoundsException> INDEX = Due.INDEX;
    private static final Class<IllegalArgumentException> ARGUMENT = Due.ARGUMENT;
    private static final long TOP = 999999999999999999L;
    private static final int[] NO_MATRICES = {-1, 6, Integer.MIN_VALUE, Integer.MAX_VALUE};
    private static final long[][] ZERO = {{0}};
    private static final long[][] SMITH = {{2, 4, 4}, {-6, 6, 12}, {10, -4, -16}};
    private static final Due due = new Due("PromisesTest");

    public static void main(String[] args) {
        constants();
        newObject();
        make();
        put();
        at();
        size();
        combine();
        multiply();
        turn();
        rank();
        hermite();
        kernel();
        solve();
        determinant();
        divisor();
        factor();
        inverse();
        characteristic();
        character();
        same();
        check();
        noSuchMatrix();
        due.end();
    }

    private static void constants() {
        due.number("NONE", MatrixDesk.NONE, -1);
        due.number("SHAPE", MatrixDesk.SHAPE, -2);
        due.number("LARGE", MatrixDesk.LARGE, -3);
    }

    private static void newObject() {
        Desk x = new Desk();
        for (int m = 0; m < 6; m++) {
            due.matrix("1: a new matrix", x, m, ZERO);
        }
        due.number("1: nothing is printed", x.character(0), MatrixDesk.NONE);
    }

    private static void make() {
        Desk x = Desk.with(new long[][] {{7, 8}, {9, 10}});
        x.make(0, 2, 3);
        due.matrix("2: all 0 again", x, 0, new long[][] {{0, 0, 0}, {0, 0, 0}});
        due.matrix("2: the others stay", x, 1, ZERO);
        x.make(5, 6, 6);
        due.matrix("2: the largest", x, 5, new long[6][6]);
        x.make(5, 1, 6);
        due.matrix("2: one row", x, 5, new long[1][6]);
        x.make(5, 6, 1);
        due.matrix("2: one column", x, 5, new long[6][1]);
        Desk y = Desk.with(new long[][] {{7, 8}, {9, 10}});
        int[][] wrong = {{0, 1}, {1, 0}, {7, 1}, {1, 7}, {-1, 2}, {2, -1}, {0, 0},
            {Integer.MAX_VALUE, 1}, {1, Integer.MIN_VALUE}};
        for (int[] sides : wrong) {
            due.throwing("2: wrong sides", ARGUMENT, () -> y.make(0, sides[0], sides[1]));
            due.throwing("2: no matrix, wrong sides", INDEX, () -> y.make(6, sides[0], sides[1]));
        }
        due.throwing("2: no matrix", INDEX, () -> y.make(-1, 1, 1));
        due.throwing("2: no matrix", INDEX, () -> y.make(6, 1, 1));
        due.matrix("2: what throws changes nothing", y, 0, new long[][] {{7, 8}, {9, 10}});
    }

    private static void put() {
        Desk x = Desk.with(new long[2][3]);
        x.put(0, 0, 0, TOP);
        x.put(0, 0, 2, -TOP);
        x.put(0, 1, 1, -5);
        long[][] want = {{TOP, 0, -TOP}, {0, -5, 0}};
        due.matrix("3: numbers", x, 0, want);
        long[] large = {TOP + 1, -TOP - 1, Long.MAX_VALUE, Long.MIN_VALUE};
        for (long v : large) {
            due.throwing("3: too large", ARGUMENT, () -> x.put(0, 1, 2, v));
            due.throwing("3: too large and no matrix", INDEX, () -> x.put(6, 0, 0, v));
            due.throwing("3: too large and no row", INDEX, () -> x.put(0, 2, 0, v));
        }
        int[][] wrong = {{0, 2, 0}, {0, 0, 3}, {0, -1, 0}, {0, 0, -1}, {1, 1, 0}, {-1, 0, 0},
            {6, 0, 0}, {0, Integer.MIN_VALUE, 0}, {0, 0, Integer.MAX_VALUE}};
        for (int[] place : wrong) {
            due.throwing("3: no place", INDEX, () -> x.put(place[0], place[1], place[2], 1));
        }
        due.matrix("3: what throws changes nothing", x, 0, want);
        due.matrix("3: the others stay", x, 1, ZERO);
    }

    private static void at() {
        Desk x = Desk.with(new long[][] {{1, 2, 3}, {4, 5, -TOP}});
        due.number("4: first", x.at(0, 0, 0), 1);
        due.number("4: row, then column", x.at(0, 0, 2), 3);
        due.number("4: last", x.at(0, 1, 2), -TOP);
        due.number("4: another one", x.at(5, 0, 0), 0);
        int[][] wrong = {{0, 2, 0}, {0, 0, 3}, {0, -1, 0}, {0, 0, -1}, {1, 0, 1}, {-1, 0, 0},
            {6, 0, 0}, {0, Integer.MIN_VALUE, 0}, {0, 0, Integer.MAX_VALUE}};
        for (int[] place : wrong) {
            due.throwing("4: no place", INDEX, () -> x.at(place[0], place[1], place[2]));
        }
    }

    private static void size() {
        Desk x = Desk.with(new long[2][3], new long[6][1]);
        due.number("5: rows", x.size(0, 0), 2);
        due.number("5: columns", x.size(0, 1), 3);
        due.number("5: rows", x.size(1, 0), 6);
        due.number("5: columns", x.size(1, 1), 1);
        due.number("5: another what", x.size(0, 2), MatrixDesk.NONE);
        due.number("5: another what", x.size(0, -1), MatrixDesk.NONE);
        for (int m : NO_MATRICES) {
            due.number("5: no matrix", x.size(m, 0), MatrixDesk.NONE);
            due.number("5: no matrix", x.size(m, 1), MatrixDesk.NONE);
        }
    }

    private static void combine() {
        long[][] a = {{1, -2}, {3, TOP}};
        long[][] b = {{10, 20}, {30, -TOP}};
        Desk x = Desk.with(a, b, new long[][] {{1, 2}});
        due.number("6: sum", x.combine(3, 0, 2, 1, 2), 0);
        due.matrix("6: sum", x, 3, new long[][] {{22, 36}, {66, 0}});
        due.number("6: large on the way alone", x.combine(3, 0, Integer.MAX_VALUE, 1, Integer.MAX_VALUE), 0);
        due.number("6: large on the way alone", x.at(3, 0, 0), 11L * Integer.MAX_VALUE);
        due.number("6: least factor", x.combine(3, 0, Integer.MIN_VALUE, 1, Integer.MIN_VALUE), 0);
        due.number("6: least factor", x.at(3, 0, 1), 18L * Integer.MIN_VALUE);
        due.number("6: large", x.combine(3, 0, 1, 1, -1), MatrixDesk.LARGE);
        due.number("6: large changes nothing", x.at(3, 0, 1), 18L * Integer.MIN_VALUE);
        due.number("6: shape", x.combine(3, 0, 1, 2, 1), MatrixDesk.SHAPE);
        due.number("6: shape changes nothing", x.at(3, 0, 1), 18L * Integer.MIN_VALUE);
        due.number("6: shape before large", x.combine(3, 0, 2, 2, 1), MatrixDesk.SHAPE);
        due.number("6: in its own place", x.combine(0, 0, 0, 0, -1), 0);
        due.matrix("6: in its own place", x, 0, new long[][] {{-1, 2}, {-3, -TOP}});
        due.number("6: all 0", x.combine(0, 0, 0, 1, 0), 0);
        due.matrix("6: all 0", x, 0, new long[2][2]);
        Desk y = Desk.with(new long[][] {{TOP}}, new long[][] {{1}});
        due.number("6: just too large", y.combine(2, 0, 1, 1, 1), MatrixDesk.LARGE);
        due.number("6: just too large below 0", y.combine(2, 0, -1, 1, -1), MatrixDesk.LARGE);
        due.number("6: just not", y.combine(2, 0, -1, 1, 1), 0);
        due.matrix("6: just not", y, 2, new long[][] {{1 - TOP}});
        due.number("6: the edge itself", y.combine(2, 0, 1, 1, 0), 0);
        due.matrix("6: the edge itself", y, 2, new long[][] {{TOP}});
    }

    private static void multiply() {
        long[][] a = {{1, 2, 3}, {4, 5, 6}};
        long[][] b = {{1, 0}, {0, 1}, {-1, 2}};
        Desk x = Desk.with(a, b, new long[][] {{TOP, TOP}}, new long[][] {{TOP}, {-TOP}});
        due.number("7: product", x.multiply(4, 0, 1), 0);
        due.matrix("7: product", x, 4, new long[][] {{-2, 8}, {-2, 17}});
        due.number("7: the other way", x.multiply(5, 1, 0), 0);
        due.matrix("7: the other way", x, 5, new long[][] {{1, 2, 3}, {4, 5, 6}, {7, 8, 9}});
        due.number("7: shape", x.multiply(4, 0, 0), MatrixDesk.SHAPE);
        due.number("7: large", x.multiply(4, 3, 2), MatrixDesk.LARGE);
        due.matrix("7: nothing changed", x, 4, new long[][] {{-2, 8}, {-2, 17}});
        due.number("7: large on the way alone", x.multiply(4, 2, 3), 0);
        due.matrix("7: large on the way alone", x, 4, ZERO);
        due.number("7: in its own place", x.multiply(5, 5, 5), 0);
        due.matrix("7: in its own place", x, 5, new long[][] {{30, 36, 42}, {66, 81, 96}, {102, 126, 150}});
        due.number("7: in the first one's place", x.multiply(0, 0, 1), 0);
        due.matrix("7: in the first one's place", x, 0, new long[][] {{-2, 8}, {-2, 17}});
        Desk y = Desk.with(new long[][] {{1000000000}}, new long[][] {{999999999}});
        y.write(3, new long[][] {{2, -3}});
        y.write(4, new long[][] {{1, 0, 4}, {5, 6, 0}});
        due.number("7: one row", y.multiply(5, 3, 4), 0);
        due.matrix("7: one row", y, 5, new long[][] {{-13, -18, 8}});
        due.number("7: rows as columns are not asked for", y.multiply(5, 4, 3), MatrixDesk.SHAPE);
        y.make(4, 3, 1);
        due.number("7: as many columns as rows are not asked for", y.multiply(5, 3, 4), MatrixDesk.SHAPE);
        due.number("7: the edge", y.multiply(2, 0, 0), MatrixDesk.LARGE);
        due.number("7: below the edge", y.multiply(2, 0, 1), 0);
        due.matrix("7: below the edge", y, 2, new long[][] {{999999999000000000L}});
    }

    private static void turn() {
        Desk x = Desk.with(new long[][] {{1, 2, 3}, {4, 5, -TOP}});
        x.turn(1, 0);
        due.matrix("8: turned", x, 1, new long[][] {{1, 4}, {2, 5}, {3, -TOP}});
        due.matrix("8: the old one stays", x, 0, new long[][] {{1, 2, 3}, {4, 5, -TOP}});
        x.turn(0, 0);
        due.matrix("8: in its own place", x, 0, new long[][] {{1, 4}, {2, 5}, {3, -TOP}});
    }

    private static void rank() {
        long[][] large = new long[6][6];
        for (int i = 0; i < 6; i++) {
            for (int j = 0; j < 6; j++) {
                large[i][j] = i == j ? -TOP : TOP;
            }
        }
        Desk x = Desk.with(ZERO, new long[][] {{0, 0, 3}, {0, 0, 5}}, SMITH,
            new long[][] {{1, 2}, {2, 4}, {0, 1}}, large, new long[][] {{0}, {0}, {-7}});
        due.number("9: zero", x.rank(0), 0);
        due.number("9: one", x.rank(1), 1);
        due.number("9: three", x.rank(2), 3);
        due.number("9: two", x.rank(3), 2);
        due.number("9: six", x.rank(4), 6);
        due.number("9: a column", x.rank(5), 1);
        x.make(0, 6, 6);
        due.number("9: zero of six", x.rank(0), 0);
        due.matrix("9: nothing changes", x, 3, new long[][] {{1, 2}, {2, 4}, {0, 1}});
    }

    private static void hermite() {
        Desk x = Desk.with(SMITH, new long[][] {{0, 0}, {0, -4}, {0, 6}}, new long[][] {{-5}},
            new long[][] {{3, 1}, {0, 5}, {0, -7}});
        due.number("10: rank", x.hermite(4, 0), 3);
        due.matrix("10: form", x, 4, new long[][] {{2, 4, 4}, {0, 6, 0}, {0, 0, 12}});
        due.number("10: rank one", x.hermite(1, 1), 1);
        due.matrix("10: in its own place, rows of 0 last", x, 1, new long[][] {{0, 2}, {0, 0}, {0, 0}});
        due.number("10: sign", x.hermite(2, 2), 1);
        due.matrix("10: sign", x, 2, new long[][] {{5}});
        due.number("10: above a lead", x.hermite(3, 3), 2);
        due.matrix("10: above a lead", x, 3, new long[][] {{3, 0}, {0, 1}, {0, 0}});
        due.number("10: zero", x.hermite(0, 5), 0);
        due.matrix("10: zero", x, 0, ZERO);
        Desk y = Desk.with(new long[][] {{TOP, 1}, {1, 1}}, new long[][] {{2, TOP}, {3, -TOP}},
            new long[][] {{TOP, 0}, {0, TOP}}, new long[][] {{1, TOP}, {0, TOP}});
        due.number("10: large numbers", y.hermite(4, 0), 2);
        due.matrix("10: large numbers", y, 4, new long[][] {{1, 1}, {0, TOP - 1}});
        due.number("10: large", y.hermite(4, 1), MatrixDesk.LARGE);
        due.matrix("10: large changes nothing", y, 4, new long[][] {{1, 1}, {0, TOP - 1}});
        due.number("10: leads at the edge", y.hermite(4, 2), 2);
        due.matrix("10: leads at the edge", y, 4, new long[][] {{TOP, 0}, {0, TOP}});
        due.number("10: above a lead of the same size", y.hermite(4, 3), 2);
        due.matrix("10: above a lead of the same size", y, 4, new long[][] {{1, 0}, {0, TOP}});
        Desk z = Desk.with(new long[][] {{1, 2, -3}, {2, 4, -7}});
        due.number("10: behind the last lead any sign", z.hermite(0, 0), 2);
        due.matrix("10: behind the last lead any sign", z, 0, new long[][] {{1, 2, 0}, {0, 0, 1}});
        z.write(0, new long[][] {{-2, 5, 9}, {4, -10, 3}});
        due.number("10: a number behind below 0", z.hermite(1, 0), 2);
        due.matrix("10: a number behind below 0", z, 1, new long[][] {{2, -5, 12}, {0, 0, 21}});
    }

    private static void kernel() {
        Desk x = Desk.with(new long[][] {{6, 10, 15}}, SMITH, ZERO, new long[][] {{1, 2}, {2, 4}, {3, 6}},
            new long[][] {{7}, {8}});
        due.number("11: two rows", x.kernel(5, 0), 2);
        due.matrix("11: two rows", x, 5, new long[][] {{5, 0, -2}, {0, 3, -2}});
        due.number("11: none", x.kernel(5, 1), 0);
        due.matrix("11: none does nothing", x, 5, new long[][] {{5, 0, -2}, {0, 3, -2}});
        due.number("11: none of a column", x.kernel(5, 4), 0);
        due.matrix("11: none does nothing", x, 5, new long[][] {{5, 0, -2}, {0, 3, -2}});
        due.number("11: all of it", x.kernel(5, 2), 1);
        due.matrix("11: all of it", x, 5, new long[][] {{1}});
        due.number("11: in its own place", x.kernel(3, 3), 1);
        due.matrix("11: in its own place", x, 3, new long[][] {{2, -1}});
        x.make(0, 2, 6);
        due.number("11: all six", x.kernel(0, 0), 6);
        due.matrix("11: all six", x, 0, new long[][] {{1, 0, 0, 0, 0, 0}, {0, 1, 0, 0, 0, 0},
            {0, 0, 1, 0, 0, 0}, {0, 0, 0, 1, 0, 0}, {0, 0, 0, 0, 1, 0}, {0, 0, 0, 0, 0, 1}});
        Desk y = Desk.with(new long[][] {{TOP, 1}}, new long[][] {{TOP, 1, 0}, {0, TOP, 1}});
        due.number("11: the edge", y.kernel(2, 0), 1);
        due.matrix("11: the edge", y, 2, new long[][] {{1, -TOP}});
        due.number("11: large", y.kernel(2, 1), MatrixDesk.LARGE);
        due.matrix("11: large changes nothing", y, 2, new long[][] {{1, -TOP}});
    }

    private static void solve() {
        Desk x = Desk.with(new long[][] {{6, 10, 15}}, new long[][] {{1}}, SMITH,
            new long[][] {{10}, {12}, {-10}}, new long[][] {{1}, {0}, {0}});
        due.number("12: the first", x.solve(5, 0, 1), 1);
        due.matrix("12: the first", x, 5, new long[][] {{1}, {1}, {-1}});
        due.number("12: just one", x.solve(5, 2, 3), 1);
        due.matrix("12: just one", x, 5, new long[][] {{1}, {1}, {1}});
        due.number("12: none in whole numbers", x.solve(5, 2, 4), 0);
        due.matrix("12: none does nothing", x, 5, new long[][] {{1}, {1}, {1}});
        due.number("12: rows", x.solve(5, 2, 1), MatrixDesk.SHAPE);
        due.number("12: columns", x.solve(5, 1, 0), MatrixDesk.SHAPE);
        due.number("12: columns, as many rows", x.solve(5, 2, 2), MatrixDesk.SHAPE);
        due.matrix("12: shape changes nothing", x, 5, new long[][] {{1}, {1}, {1}});
        due.number("12: in a's place", x.solve(2, 2, 3), 1);
        due.matrix("12: in a's place", x, 2, new long[][] {{1}, {1}, {1}});
        due.number("12: in b's place", x.solve(1, 0, 1), 1);
        due.matrix("12: in b's place", x, 1, new long[][] {{1}, {1}, {-1}});
        Desk y = Desk.with(new long[][] {{1, 2}, {1, 2}}, new long[][] {{1}, {2}},
            new long[][] {{1, 0}, {TOP, 1}}, new long[][] {{TOP}, {0}}, ZERO, ZERO);
        due.number("12: rows against one another", y.solve(5, 0, 1), 0);
        due.number("12: large", y.solve(5, 2, 3), MatrixDesk.LARGE);
        due.matrix("12: large changes nothing", y, 5, ZERO);
        y.write(3, new long[][] {{1}, {0}});
        due.number("12: the edge", y.solve(5, 2, 3), 1);
        due.matrix("12: the edge", y, 5, new long[][] {{1}, {-TOP}});
        y.make(1, 1, 3);
        due.number("12: 0 of nothing", y.solve(5, 1, 4), 1);
        due.matrix("12: 0 of nothing", y, 5, new long[3][1]);
        y.write(4, new long[][] {{3}});
        due.number("12: 3 of nothing", y.solve(5, 1, 4), 0);
        y.write(0, new long[][] {{1, -1}});
        y.write(1, new long[][] {{-4}});
        due.number("12: from 0 on", y.solve(5, 0, 1), 1);
        due.matrix("12: from 0 on", y, 5, new long[][] {{0}, {4}});
    }

    private static void determinant() {
        long[][] large = new long[6][6];
        for (int i = 0; i < 6; i++) {
            large[i][5 - i] = TOP;
        }
        Desk x = Desk.with(SMITH, new long[][] {{-7}}, new long[][] {{1, 2}, {2, 4}}, new long[2][3], large,
            new long[][] {{0, 1}, {1, 0}});
        due.printed("13: below 0", x, x.determinant(0), "-144");
        due.number("13: shape", x.determinant(3), MatrixDesk.SHAPE);
        due.printed("13: what was printed stays", x, 4, "-144");
        due.printed("13: one", x, x.determinant(1), "-7");
        due.printed("13: zero", x, x.determinant(2), "0");
        due.printed("13: an exchange", x, x.determinant(5), "-1");
        due.printed("13: large", x, x.determinant(4),
            new java.math.BigInteger("999999999999999999").pow(6).negate().toString());
        x.write(0, new long[][] {{1000000000, 0}, {0, 1000000000}});
        due.printed("13: zeros inside", x, x.determinant(0), "1000000000000000000");
        x.write(0, new long[][] {{1000000000, 5}, {-1, 1000000000}});
        due.printed("13: zeros inside", x, x.determinant(0), "1000000000000000005");
        x.write(0, new long[][] {{10}});
        due.printed("13: ten", x, x.determinant(0), "10");
    }

    private static void divisor() {
        Desk x = Desk.with(SMITH, new long[][] {{0, 0}, {0, 0}}, new long[][] {{-6, 9, 12}, {3, 6, 0}},
            new long[][] {{1, 2}, {2, 4}}, new long[][] {{-5}});
        due.printed("14: D(1)", x, x.divisor(0, 1), "2");
        due.printed("14: D(2)", x, x.divisor(0, 2), "12");
        due.printed("14: D(3)", x, x.divisor(0, 3), "144");
        int[] wrong = {0, -1, 4, Integer.MIN_VALUE, Integer.MAX_VALUE};
        for (int k : wrong) {
            due.number("14: none", x.divisor(0, k), MatrixDesk.NONE);
            due.printed("14: what was printed stays", x, 3, "144");
        }
        due.printed("14: zero", x, x.divisor(1, 2), "0");
        due.printed("14: two rows, three columns", x, x.divisor(2, 2), "9");
        due.number("14: as few rows", x.divisor(2, 3), MatrixDesk.NONE);
        due.printed("14: all 0", x, x.divisor(3, 2), "0");
        due.printed("14: never below 0", x, x.divisor(4, 1), "5");
        x.turn(2, 2);
        due.printed("14: three rows, two columns", x, x.divisor(2, 2), "9");
        due.number("14: as few columns", x.divisor(2, 3), MatrixDesk.NONE);
    }

    private static void factor() {
        Desk x = Desk.with(SMITH, new long[][] {{1, 2}, {2, 4}}, new long[][] {{-6, 9, 12}, {3, 6, 0}},
            new long[][] {{-5}});
        due.printed("15: first", x, x.factor(0, 1), "2");
        due.printed("15: second", x, x.factor(0, 2), "6");
        due.printed("15: third", x, x.factor(0, 3), "12");
        int[] wrong = {0, -1, 4, 7, Integer.MIN_VALUE, Integer.MAX_VALUE};
        for (int k : wrong) {
            due.number("15: none", x.factor(0, k), MatrixDesk.NONE);
            due.printed("15: what was printed stays", x, 2, "12");
        }
        due.number("15: above the rank", x.factor(1, 2), MatrixDesk.NONE);
        due.number("15: of zero", x.factor(4, 1), MatrixDesk.NONE);
        due.printed("15: what was printed stays", x, 2, "12");
        due.printed("15: the rank itself", x, x.factor(1, 1), "1");
        due.printed("15: two rows, three columns", x, x.factor(2, 2), "3");
        due.printed("15: never below 0", x, x.factor(3, 1), "5");
    }

    private static void inverse() {
        Desk x = Desk.with(new long[][] {{1, 2}, {3, 4}}, new long[][] {{-4}}, new long[][] {{1, 2}, {2, 4}},
            new long[2][3], new long[][] {{2, 0}, {0, -6}}, new long[][] {{1, 5}, {0, 1}});
        due.printed("16: whole below 0", x, x.inverse(0, 0, 0), "-2");
        due.printed("16: whole", x, x.inverse(0, 0, 1), "1");
        due.printed("16: a fraction", x, x.inverse(0, 1, 0), "3/2");
        due.printed("16: a fraction below 0", x, x.inverse(0, 1, 1), "-1/2");
        due.number("16: shape", x.inverse(3, 0, 0), MatrixDesk.SHAPE);
        due.number("16: shape, no such row", x.inverse(3, 2, 0), MatrixDesk.SHAPE);
        due.number("16: no inverse", x.inverse(2, 0, 0), MatrixDesk.NONE);
        int[][] wrong = {{2, 0}, {0, 2}, {-1, 0}, {0, -1}, {Integer.MAX_VALUE, 0}, {0, Integer.MIN_VALUE}};
        for (int[] place : wrong) {
            due.number("16: no place", x.inverse(0, place[0], place[1]), MatrixDesk.NONE);
        }
        due.printed("16: what was printed stays", x, 4, "-1/2");
        due.printed("16: one row", x, x.inverse(1, 0, 0), "-1/4");
        due.printed("16: least terms", x, x.inverse(4, 1, 1), "-1/6");
        due.printed("16: least terms", x, x.inverse(4, 0, 0), "1/2");
        due.printed("16: zero", x, x.inverse(4, 0, 1), "0");
        due.printed("16: row, then column", x, x.inverse(5, 0, 1), "-5");
        due.printed("16: row, then column", x, x.inverse(5, 1, 0), "0");
        x.write(1, new long[][] {{TOP}});
        due.printed("16: large below", x, x.inverse(1, 0, 0), "1/999999999999999999");
    }

    private static void characteristic() {
        Desk x = Desk.with(SMITH, new long[][] {{-7}}, new long[2][3], new long[][] {{2, 1}, {0, 3}}, new long[6][6]);
        String[] smith = {"144", "-84", "8", "1"};
        for (int k = 0; k < smith.length; k++) {
            due.printed("17: three rows, number " + k, x, x.characteristic(0, k), smith[k]);
        }
        due.number("17: shape", x.characteristic(2, 0), MatrixDesk.SHAPE);
        due.number("17: shape, no such number", x.characteristic(2, 9), MatrixDesk.SHAPE);
        int[] wrong = {-1, 4, Integer.MIN_VALUE, Integer.MAX_VALUE};
        for (int k : wrong) {
            due.number("17: none", x.characteristic(0, k), MatrixDesk.NONE);
        }
        due.printed("17: what was printed stays", x, 1, "1");
        due.printed("17: one row", x, x.characteristic(1, 0), "7");
        due.printed("17: one row", x, x.characteristic(1, 1), "1");
        due.printed("17: two rows", x, x.characteristic(3, 0), "6");
        due.printed("17: two rows", x, x.characteristic(3, 1), "-5");
        due.printed("17: two rows", x, x.characteristic(3, 2), "1");
        for (int k = 0; k < 6; k++) {
            due.printed("17: all 0", x, x.characteristic(4, k), "0");
        }
        due.printed("17: all 0", x, x.characteristic(4, 6), "1");
    }

    private static void character() {
        Desk x = Desk.with(SMITH);
        int[] none = {-1, 4, Integer.MIN_VALUE, Integer.MAX_VALUE};
        for (int i : none) {
            due.number("18: nothing printed", x.character(i), MatrixDesk.NONE);
        }
        x.determinant(0);
        due.number("18: minus", x.character(0), '-');
        due.number("18: 1", x.character(1), '1');
        due.number("18: 4", x.character(3), '4');
        for (int i : none) {
            due.number("18: none", x.character(i), MatrixDesk.NONE);
        }
        x.divisor(0, 1);
        due.number("18: shorter", x.character(0), '2');
        due.number("18: shorter", x.character(1), MatrixDesk.NONE);
        x.make(0, 2, 2);
        x.rank(0);
        x.hermite(1, 0);
        due.number("18: stays", x.character(0), '2');
    }

    private static void same() {
        Desk x = Desk.with(new long[][] {{1, 2}, {3, 4}}, new long[][] {{1, 2}, {3, 4}}, new long[][] {{1, 2}, {3, 5}},
            new long[2][3], new long[3][2], new long[][] {{1, 2}});
        due.truth("19: same", x.same(0, 1));
        due.truth("19: itself", x.same(2, 2));
        due.truth("19: another number", !x.same(0, 2));
        due.truth("19: other sides", !x.same(3, 4));
        due.truth("19: fewer rows", !x.same(0, 5));
        due.truth("19: more rows", !x.same(5, 0));
        x.make(0, 1, 1);
        x.make(1, 1, 2);
        due.truth("19: fewer columns", !x.same(0, 1));
        x.make(1, 1, 1);
        due.truth("19: same again", x.same(0, 1));
    }

    private static void check() {
        long[][] large = new long[6][6];
        for (int i = 0; i < 6; i++) {
            for (int j = 0; j < 6; j++) {
                large[i][j] = (i * 7 + j * j + 3) % 11 % 2 == 0 ? TOP - i * j : -TOP + i * i + 5 * j;
            }
        }
        long[][][] all = {ZERO, SMITH, new long[6][6], new long[][] {{0, 0, 4}, {0, 0, 6}}, large, {{1}, {2}, {3}}};
        Desk x = Desk.with(all);
        for (int m = 0; m < 6; m++) {
            due.number("20: matrix " + m, x.check(m), 1);
            due.matrix("20: nothing changes", x, m, all[m]);
        }
    }

    private static void noSuchMatrix() {
        Desk x = Desk.with(SMITH);
        x.determinant(0);
        for (int m : NO_MATRICES) {
            due.throwing("6: to", INDEX, () -> x.combine(m, 0, 1, 0, 1));
            due.throwing("6: a", INDEX, () -> x.combine(0, m, 1, 0, 1));
            due.throwing("6: b", INDEX, () -> x.combine(0, 0, 1, m, 1));
            due.throwing("6: b, before shape", INDEX, () -> x.combine(m, 0, 1, 1, 1));
            due.throwing("7: to", INDEX, () -> x.multiply(m, 0, 0));
            due.throwing("7: a", INDEX, () -> x.multiply(0, m, 0));
            due.throwing("7: b", INDEX, () -> x.multiply(0, 0, m));
            due.throwing("7: to, before shape", INDEX, () -> x.multiply(m, 0, 1));
            due.throwing("8: to", INDEX, () -> x.turn(m, 0));
            due.throwing("8: a", INDEX, () -> x.turn(0, m));
            due.throwing("9", INDEX, () -> x.rank(m));
            due.throwing("10: to", INDEX, () -> x.hermite(m, 0));
            due.throwing("10: a", INDEX, () -> x.hermite(0, m));
            due.throwing("11: to", INDEX, () -> x.kernel(m, 0));
            due.throwing("11: a", INDEX, () -> x.kernel(0, m));
            due.throwing("12: to", INDEX, () -> x.solve(m, 0, 1));
            due.throwing("12: a", INDEX, () -> x.solve(0, m, 1));
            due.throwing("12: b", INDEX, () -> x.solve(0, 0, m));
            due.throwing("13", INDEX, () -> x.determinant(m));
            due.throwing("14", INDEX, () -> x.divisor(m, 0));
            due.throwing("15", INDEX, () -> x.factor(m, 0));
            due.throwing("16", INDEX, () -> x.inverse(m, 0, 9));
            due.throwing("17", INDEX, () -> x.characteristic(m, 9));
            due.throwing("19: a", INDEX, () -> x.same(m, 0));
            due.throwing("19: b", INDEX, () -> x.same(0, m));
            due.throwing("20", INDEX, () -> x.check(m));
        }
        due.matrix("what throws changes nothing", x, 0, SMITH);
        due.printed("what throws prints nothing", x, 4, "-144");
    }
}
