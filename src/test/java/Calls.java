import java.util.ArrayList;
import java.util.List;

/** Calls that name a matrix, once for each place where a matrix is named. */
final class Calls {
    interface Asked {
        long on(Desk x, int m);
    }

    final String name;
    private final int promise;
    private final Asked asked;

    private Calls(int promise, String name, Asked asked) {
        this.promise = promise;
        this.name = name;
        this.asked = asked;
    }

    long on(Desk x, int m) {
        return asked.on(x, m);
    }

    String with(int m) {
        return name + " with m " + m;
    }

    /** Those of one promise. */
    static List<Calls> of(int promise, List<Calls> all) {
        List<Calls> some = new ArrayList<>(all);
        some.removeIf(call -> call.promise != promise);
        return some;
    }

    /** A desk whose matrices are all the number 2: nothing but m can be wrong in the calls of naming(). */
    static Desk twos() {
        long[][] two = {{2}};
        return Desk.printed(two, two, two, two, two, two);
    }

    static List<Calls> naming() {
        List<Calls> all = new ArrayList<>();
        all.add(new Calls(2, "make(m, 1, 1)", (x, m) -> none(() -> x.make(m, 1, 1))));
        all.add(new Calls(3, "put(m, 0, 0, 3)", (x, m) -> none(() -> x.put(m, 0, 0, 3))));
        all.add(new Calls(4, "at(m, 0, 0)", (x, m) -> x.at(m, 0, 0)));
        all.add(new Calls(6, "combine(m, 0, 1, 0, 1)", (x, m) -> x.combine(m, 0, 1, 0, 1)));
        all.add(new Calls(6, "combine(0, m, 1, 0, 1)", (x, m) -> x.combine(0, m, 1, 0, 1)));
        all.add(new Calls(6, "combine(0, 0, 1, m, 1)", (x, m) -> x.combine(0, 0, 1, m, 1)));
        all.add(new Calls(6, "combine(0, m, 0, 0, 1)", (x, m) -> x.combine(0, m, 0, 0, 1)));
        all.add(new Calls(6, "combine(0, 0, 1, m, 0)", (x, m) -> x.combine(0, 0, 1, m, 0)));
        all.add(new Calls(7, "multiply(m, 0, 0)", (x, m) -> x.multiply(m, 0, 0)));
        all.add(new Calls(7, "multiply(0, m, 0)", (x, m) -> x.multiply(0, m, 0)));
        all.add(new Calls(7, "multiply(0, 0, m)", (x, m) -> x.multiply(0, 0, m)));
        all.add(new Calls(8, "turn(m, 0)", (x, m) -> none(() -> x.turn(m, 0))));
        all.add(new Calls(8, "turn(0, m)", (x, m) -> none(() -> x.turn(0, m))));
        all.add(new Calls(9, "rank(m)", (x, m) -> x.rank(m)));
        all.add(new Calls(10, "hermite(m, 0)", (x, m) -> x.hermite(m, 0)));
        all.add(new Calls(10, "hermite(0, m)", (x, m) -> x.hermite(0, m)));
        all.add(new Calls(11, "kernel(m, 0)", (x, m) -> x.kernel(m, 0)));
        all.add(new Calls(11, "kernel(0, m)", (x, m) -> x.kernel(0, m)));
        all.add(new Calls(12, "solve(m, 0, 0)", (x, m) -> x.solve(m, 0, 0)));
        all.add(new Calls(12, "solve(0, m, 0)", (x, m) -> x.solve(0, m, 0)));
        all.add(new Calls(12, "solve(0, 0, m)", (x, m) -> x.solve(0, 0, m)));
        all.add(new Calls(13, "determinant(m)", (x, m) -> x.determinant(m)));
        all.add(new Calls(14, "divisor(m, 1)", (x, m) -> x.divisor(m, 1)));
        all.add(new Calls(15, "factor(m, 1)", (x, m) -> x.factor(m, 1)));
        all.add(new Calls(16, "inverse(m, 0, 0)", (x, m) -> x.inverse(m, 0, 0)));
        all.add(new Calls(17, "characteristic(m, 0)", (x, m) -> x.characteristic(m, 0)));
        all.add(new Calls(19, "same(m, 0)", (x, m) -> x.same(m, 0) ? 1 : 0));
        all.add(new Calls(19, "same(0, m)", (x, m) -> x.same(0, m) ? 1 : 0));
        all.add(new Calls(20, "check(m)", (x, m) -> x.check(m)));
        return all;
    }

    /** A desk on which the calls of wrongBeside() would be refused, did they name matrices that are there. */
    static Desk unlike() {
        return Desk.printed(new long[][] {{1, 2, 3}, {4, 5, 6}}, new long[][] {{Samples.TOP}});
    }

    static List<Calls> wrongBeside() {
        List<Calls> all = new ArrayList<>();
        all.add(new Calls(2, "make(m, 0, 7)", (x, m) -> none(() -> x.make(m, 0, 7))));
        all.add(new Calls(3, "put(m, 6, 6, 1)", (x, m) -> none(() -> x.put(m, 6, 6, 1))));
        all.add(new Calls(3, "put(m, 0, 0, 10^18)", (x, m) -> none(() -> x.put(m, 0, 0, Samples.LIMIT))));
        all.add(new Calls(4, "at(m, -1, 6)", (x, m) -> x.at(m, -1, 6)));
        all.add(new Calls(6, "combine(m, 0, 1, 1, 1)", (x, m) -> x.combine(m, 0, 1, 1, 1)));
        all.add(new Calls(6, "combine(m, 1, 1, 1, 1)", (x, m) -> x.combine(m, 1, 1, 1, 1)));
        all.add(new Calls(7, "multiply(m, 0, 0)", (x, m) -> x.multiply(m, 0, 0)));
        all.add(new Calls(7, "multiply(m, 1, 1)", (x, m) -> x.multiply(m, 1, 1)));
        all.add(new Calls(11, "kernel(m, 1)", (x, m) -> x.kernel(m, 1)));
        all.add(new Calls(12, "solve(m, 0, 1)", (x, m) -> x.solve(m, 0, 1)));
        all.add(new Calls(12, "solve(0, m, 0)", (x, m) -> x.solve(0, m, 0)));
        all.add(new Calls(12, "solve(m, 2, 1)", (x, m) -> x.solve(m, 2, 1)));
        all.add(new Calls(14, "divisor(m, 0)", (x, m) -> x.divisor(m, 0)));
        all.add(new Calls(14, "divisor(m, 7)", (x, m) -> x.divisor(m, 7)));
        all.add(new Calls(15, "factor(m, 0)", (x, m) -> x.factor(m, 0)));
        all.add(new Calls(15, "factor(m, 7)", (x, m) -> x.factor(m, 7)));
        all.add(new Calls(16, "inverse(m, -1, 6)", (x, m) -> x.inverse(m, -1, 6)));
        all.add(new Calls(17, "characteristic(m, -1)", (x, m) -> x.characteristic(m, -1)));
        all.add(new Calls(17, "characteristic(m, 7)", (x, m) -> x.characteristic(m, 7)));
        return all;
    }

    private static long none(Runnable call) {
        call.run();
        return 0;
    }
}
