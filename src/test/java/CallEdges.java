import java.util.function.ToLongFunction;

/** The edge of how many calls an object is used for: the 512th answers as the first does. */
final class CallEdges {
    private static final long TOP = Samples.TOP;
    private static final int LAST = Desk.CALLS;

    private final Edges edges;
    private final Due due;

    CallEdges(Edges edges) {
        this.edges = edges;
        due = edges.due;
    }

    void run() {
        edges.sentence("What it is", "An object is used for at most 512 calls after it has been made", this::lastCall);
        edges.sentence("What it is", "what later calls answer is free", this::noLaterCall);
    }

    /** Another test can't have looked at a later call, since the counting desk stops it. */
    private void noLaterCall() {
        Desk x = new Desk();
        spend(x, LAST);
        boolean stopped = false;
        try {
            x.size(0, 0);
        } catch (AssertionError e) {
            stopped = true;
        }
        due.truth("the tests stop at call 512", stopped);
    }

    private static Desk ready() {
        return Desk.printed(new long[][] {{2, 4, 4}, {-6, 6, 12}, {10, -4, -16}}, Samples.column(10, 12, -10),
            Samples.row(6, 10, 15), new long[][] {{1}}, new long[][] {{1, 2}, {2, 4}});
    }

    /** Calls that change nothing, until so many were made. */
    private static void spend(Desk x, int calls) {
        while (x.calls() < calls) {
            x.size(0, 0);
        }
    }

    private void lastCall() {
        answersLast();
        changesLastButOne();
        prints();
        refused();
        counts();
        oneCallAllTheTime();
        dear();
    }

    private void last(String what, long want, ToLongFunction<Desk> call) {
        Desk x = ready();
        spend(x, LAST - 1);
        due.number("call 512: " + what, call.applyAsLong(x), want);
        due.number("calls", x.calls(), LAST);
    }

    private void answersLast() {
        last("at", -16, x -> x.at(0, 2, 2));
        last("size, rows", 3, x -> x.size(1, 0));
        last("size, columns", 3, x -> x.size(2, 1));
        last("size, none", MatrixDesk.NONE, x -> x.size(6, 0));
        last("combine", 0, x -> x.combine(5, 0, 1, 0, 1));
        last("combine, shape", MatrixDesk.SHAPE, x -> x.combine(5, 0, 1, 1, 1));
        last("multiply", 0, x -> x.multiply(5, 0, 1));
        last("multiply, shape", MatrixDesk.SHAPE, x -> x.multiply(5, 1, 0));
        last("rank", 3, x -> x.rank(0));
        last("hermite", 1, x -> x.hermite(4, 4));
        last("kernel", 2, x -> x.kernel(5, 2));
        last("kernel, none", 0, x -> x.kernel(5, 0));
        last("solve", 1, x -> x.solve(5, 0, 1));
        last("solve, shape", MatrixDesk.SHAPE, x -> x.solve(5, 0, 0));
        last("determinant", 4, x -> x.determinant(0));
        last("determinant, shape", MatrixDesk.SHAPE, x -> x.determinant(1));
        last("divisor", 3, x -> x.divisor(0, 3));
        last("divisor, none", MatrixDesk.NONE, x -> x.divisor(0, 4));
        last("factor", 2, x -> x.factor(0, 3));
        last("factor, none", MatrixDesk.NONE, x -> x.factor(4, 2));
        last("inverse", 1, x -> x.inverse(3, 0, 0));
        last("inverse, none", MatrixDesk.NONE, x -> x.inverse(4, 0, 0));
        last("characteristic", 3, x -> x.characteristic(0, 1));
        last("characteristic, none", MatrixDesk.NONE, x -> x.characteristic(0, 4));
        last("character", '-', x -> x.character(0));
        last("character, none", MatrixDesk.NONE, x -> x.character(3));
        last("same", 1, x -> x.same(0, 0) ? 1 : 0);
        last("same, not", 0, x -> x.same(0, 1) ? 1 : 0);
        last("check", 1, x -> x.check(0));
        throwsLast();
    }

    private void throwsLast() {
        Desk x = ready();
        spend(x, LAST - 1);
        due.throwing("call 512: make", Due.ARGUMENT, () -> x.make(0, 7, 1));
        Desk y = ready();
        spend(y, LAST - 1);
        due.throwing("call 512: put", Due.ARGUMENT, () -> y.put(0, 0, 0, TOP + 1));
        Desk z = ready();
        spend(z, LAST - 1);
        due.throwing("call 512: turn", Due.INDEX, () -> z.turn(6, 0));
        Desk w = ready();
        spend(w, LAST - 1);
        w.put(0, 0, 0, TOP);
        due.number("call 512: put answers nothing", w.calls(), LAST);
    }

    /** Call 511 changes something, and call 512 sees it. */
    private void lastTwo(String what, long want, ToLongFunction<Desk> change, ToLongFunction<Desk> look) {
        Desk x = ready();
        spend(x, LAST - 2);
        change.applyAsLong(x);
        due.number("calls 511 and 512: " + what, look.applyAsLong(x), want);
    }

    private void changesLastButOne() {
        lastTwo("make", 6, x -> none(() -> x.make(5, 6, 6)), x -> x.size(5, 0));
        lastTwo("put", -TOP, x -> none(() -> x.put(0, 2, 2, -TOP)), x -> x.at(0, 2, 2));
        lastTwo("combine", -32, x -> x.combine(5, 0, 1, 0, 1), x -> x.at(5, 2, 2));
        lastTwo("multiply", 28, x -> x.multiply(5, 0, 1), x -> x.at(5, 0, 0));
        lastTwo("turn", 10, x -> none(() -> x.turn(5, 0)), x -> x.at(5, 0, 2));
        lastTwo("hermite", 12, x -> x.hermite(5, 0), x -> x.at(5, 2, 2));
        lastTwo("kernel", 5, x -> x.kernel(5, 2), x -> x.at(5, 0, 0));
        lastTwo("solve", -1, x -> x.solve(5, 2, 3), x -> x.at(5, 2, 0));
        lastTwo("determinant", '1', x -> x.determinant(0), x -> x.character(1));
        lastTwo("divisor", '4', x -> x.divisor(0, 3), x -> x.character(2));
        lastTwo("factor", '2', x -> x.factor(0, 3), x -> x.character(1));
        lastTwo("inverse", '1', x -> x.inverse(3, 0, 0), x -> x.character(0));
        lastTwo("characteristic", '8', x -> x.characteristic(0, 1), x -> x.character(1));
    }

    private static long none(Runnable call) {
        call.run();
        return 0;
    }

    /** Call after call prints, and the last character is the latest one's. */
    private void prints() {
        Desk x = ready();
        while (x.calls() < LAST - 2) {
            due.number("call " + (x.calls() + 1) + ": determinant", x.determinant(0), 4);
        }
        due.number("call 511: divisor", x.divisor(0, 1), 1);
        due.number("call 512: character", x.character(0), '2');
    }

    private void refused() {
        Desk x = ready();
        while (x.calls() < LAST - 1) {
            due.throwing("call " + (x.calls() + 1) + ": put", Due.ARGUMENT, () -> x.put(0, 2, 2, TOP + 1));
        }
        due.number("call 512: at", x.at(0, 2, 2), -16);
        Desk y = Desk.with(new long[][] {{TOP}}, Samples.row(1, 2));
        while (y.calls() < LAST - 2) {
            due.number("call " + (y.calls() + 1) + ": combine", y.combine(0, 0, 1, 0, 1), MatrixDesk.LARGE);
            due.number("call " + (y.calls() + 1) + ": multiply", y.multiply(0, 1, 1), MatrixDesk.SHAPE);
        }
        spend(y, LAST - 1);
        due.number("call 512: at", y.at(0, 0, 0), TOP);
    }

    /** Each call adds 1, and none is left out. */
    private void counts() {
        Desk x = new Desk();
        x.put(1, 0, 0, 1);
        while (x.calls() < LAST - 1) {
            due.number("call " + (x.calls() + 1) + ": combine", x.combine(0, 0, 1, 1, 1), 0);
        }
        due.number("call 512: at", x.at(0, 0, 0), LAST - 2);
    }

    private void always(String what, long want, ToLongFunction<Desk> call) {
        Desk x = new Desk();
        while (x.calls() < LAST) {
            due.number("call " + (x.calls() + 1) + ", always " + what, call.applyAsLong(x), want);
        }
    }

    private void oneCallAllTheTime() {
        always("at", 0, x -> x.at(0, 0, 0));
        always("size", 1, x -> x.size(0, 0));
        always("combine", 0, x -> x.combine(0, 0, 1, 0, 1));
        always("multiply", 0, x -> x.multiply(0, 0, 0));
        always("rank", 0, x -> x.rank(0));
        always("hermite", 0, x -> x.hermite(0, 0));
        always("kernel", 1, x -> x.kernel(1, 0));
        always("solve", 1, x -> x.solve(1, 0, 0));
        always("determinant", 1, x -> x.determinant(0));
        always("divisor", 1, x -> x.divisor(0, 1));
        always("factor", MatrixDesk.NONE, x -> x.factor(0, 1));
        always("inverse", MatrixDesk.NONE, x -> x.inverse(0, 0, 0));
        always("characteristic", 1, x -> x.characteristic(0, 1));
        always("character", MatrixDesk.NONE, x -> x.character(0));
        always("same", 1, x -> x.same(0, 5) ? 1 : 0);
        always("check", 1, x -> x.check(0));
        oneChangeAllTheTime();
    }

    private void oneChangeAllTheTime() {
        Desk x = new Desk();
        while (x.calls() < LAST - 1) {
            x.put(0, 0, 0, x.calls());
        }
        due.number("call 512 behind 511 of put", x.at(0, 0, 0), LAST - 2);
        Desk y = new Desk();
        while (y.calls() < LAST - 1) {
            y.make(0, 1 + y.calls() % 6, 6 - y.calls() % 6);
        }
        due.number("call 512 behind 511 of make", y.size(0, 0), 1 + (LAST - 2) % 6);
        Desk z = Desk.with(Samples.row(1, 2, 3));
        while (z.calls() < LAST - 1) {
            z.turn(0, 0);
        }
        due.number("call 512 behind many of turn", z.size(0, 0), 3);
    }

    /** The dearest calls with the largest numbers, until the last. */
    private void dear() {
        String large = Reference.determinant(Reference.of(Samples.large(6, 6))).toString();
        Desk x = Desk.with(Samples.large(6, 6), Samples.column(TOP, TOP, TOP, TOP, TOP, TOP - 1));
        while (x.calls() < LAST - 7) {
            due.number("check", x.check(0), 1);
            due.number("hermite", x.hermite(2, 0), MatrixDesk.LARGE);
            due.number("kernel", x.kernel(2, 0), 0);
            due.number("solve", x.solve(2, 0, 1), 0);
            due.number("rank", x.rank(0), 6);
            due.number("determinant", x.determinant(0), large.length());
        }
        while (x.calls() < LAST - 1) {
            due.number("determinant", x.determinant(0), large.length());
        }
        due.number("call 512: character", x.character(large.length() - 1), large.charAt(large.length() - 1));
    }
}
