import java.io.IOException;
import java.nio.file.Files;
import java.nio.file.Path;
import java.util.Collections;
import java.util.List;
import java.util.Map;
import java.util.Set;
import java.util.TreeMap;
import java.util.TreeSet;
import java.util.function.LongSupplier;

/** What README.md says of the class is true: its code runs as it is written there, its table tells who answers what. */
public final class ReadmeTest {
    private static final long TOP = Samples.TOP;
    private static final Due due = new Due("ReadmeTest");

    public static void main(String[] args) throws IOException {
        List<String> readme = lines(Path.of("README.md"));
        List<String> test = lines(Path.of("src", "test", "java", "ReadmeTest.java"));
        int blocks = 0;
        for (int start = readme.indexOf("```java"); start >= 0; start = next(readme, start)) {
            List<String> rest = readme.subList(start + 1, readme.size());
            List<String> code = rest.subList(0, rest.indexOf("```"));
            due.truth("code that this test runs: " + code, Collections.indexOfSubList(test, code) >= 0);
            blocks++;
        }
        due.number("code in README.md", blocks, 2);
        example();
        table(readme);
        due.end();
    }

    private static List<String> lines(Path file) throws IOException {
        return Files.readAllLines(file).stream().map(String::strip).toList();
    }

    private static int next(List<String> readme, int start) {
        int found = readme.subList(start + 1, readme.size()).indexOf("```java");
        return found < 0 ? -1 : start + 1 + found;
    }

    /** README.md's code, line for line, and behind it what its remarks say. */
    private static void example() {
        MatrixDesk desk = new MatrixDesk();
        desk.make(0, 1, 3);               // matrix 0: one row, three columns, all 0
        desk.put(0, 0, 0, 6);
        desk.put(0, 0, 1, 10);
        desk.put(0, 0, 2, 15);
        desk.put(1, 0, 0, 1);             // matrix 1 is one row and column from the beginning
        int found = desk.solve(2, 0, 1);  // 1: matrix 2 is now the column 1, 1, -1
        int rows = desk.kernel(3, 0);     // 2: matrix 3 is now 5 0 -2 and 0 3 -2
        long last = desk.at(3, 1, 2);     // -2
        int columns = desk.size(3, 1);    // 3; size(3, 0) would tell the rows
        due.number("found", found, 1);
        due.text("matrix 2", written(desk, 2), "1,1,-1,");
        due.number("rows", rows, 2);
        due.text("matrix 3", written(desk, 3), "5 0 -2,0 3 -2,");
        due.number("last", last, -2);
        due.number("columns", columns, 3);
        due.number("size(3, 0)", desk.size(3, 0), rows);
        desk.make(4, 2, 2);
        desk.put(4, 0, 0, 4);
        desk.put(4, 1, 1, -6);            // matrix 4 is now 4 0 and 0 -6
        int length = desk.inverse(4, 1, 1);
        StringBuilder text = new StringBuilder();
        for (int i = 0; i < length; i++) {
            text.append((char) desk.character(i));
        }                                 // text is now -1/6
        due.text("matrix 4", written(desk, 4), "4 0,0 -6,");
        due.text("text", text.toString(), "-1/6");
    }

    private static String written(MatrixDesk desk, int m) {
        StringBuilder text = new StringBuilder();
        for (int row = 0; row < desk.size(m, 0); row++) {
            for (int column = 0; column < desk.size(m, 1); column++) {
                text.append(column == 0 ? "" : " ").append(desk.at(m, row, column));
            }
            text.append(",");
        }
        return text.toString();
    }

    /** Each call that a line of the table names does answer so, and changes nothing. */
    private static void table(List<String> readme) {
        Desk x = Desk.printed(new long[][] {{TOP, TOP}, {TOP, 1 - TOP}}, Samples.row(TOP, TOP - 1, TOP - 2),
            Samples.column(1, 1), new long[][] {{2, 3}}, new long[][] {{TOP}});
        answers(readme, "`NONE`, " + MatrixDesk.NONE, x, MatrixDesk.NONE, Map.of("size", () -> x.size(6, 0),
            "divisor", () -> x.divisor(0, 3), "factor", () -> x.factor(0, 3), "inverse", () -> x.inverse(0, 2, 0),
            "characteristic", () -> x.characteristic(0, 3), "character", () -> x.character(3)));
        answers(readme, "`SHAPE`, " + MatrixDesk.SHAPE, x, MatrixDesk.SHAPE,
            Map.of("combine", () -> x.combine(5, 0, 1, 1, 1), "multiply", () -> x.multiply(5, 0, 1),
                "solve", () -> x.solve(5, 0, 3), "determinant", () -> x.determinant(1),
                "inverse", () -> x.inverse(1, 0, 0), "characteristic", () -> x.characteristic(1, 0)));
        Desk y = Desk.printed(new long[][] {{TOP, 1}, {1, TOP}}, new long[][] {{1, -TOP, 0}, {0, 1, -TOP}},
            Samples.column(0, 1), new long[][] {{1, TOP}, {0, 1}}, Samples.column(TOP, -TOP));
        answers(readme, "`LARGE`, " + MatrixDesk.LARGE, y, MatrixDesk.LARGE,
            Map.of("combine", () -> y.combine(5, 0, 1, 0, 1), "multiply", () -> y.multiply(5, 0, 0),
                "hermite", () -> y.hermite(5, 0), "kernel", () -> y.kernel(5, 1), "solve", () -> y.solve(5, 3, 4)));
        Map<String, Runnable> unknown = new TreeMap<>();
        Desk z = Calls.twos();
        for (Calls call : Calls.naming()) {
            unknown.put(call.name.substring(0, call.name.indexOf('(')), () -> call.on(z, 6));
        }
        throwing(readme, z, Due.INDEX, unknown);
        throwing(readme, z, Due.ARGUMENT,
            Map.of("make", () -> z.make(0, 7, 1), "put", () -> z.put(0, 0, 0, TOP + 1)));
    }

    private static void answers(List<String> readme, String head, Desk x, long want, Map<String, LongSupplier> calls) {
        names(readme, head, calls.keySet());
        calls.forEach((name, call) -> due.still(head + ": " + name, x, want, call));
    }

    private static void throwing(List<String> readme, Desk x, Class<? extends RuntimeException> want,
            Map<String, Runnable> calls) {
        String head = "throws `" + want.getSimpleName() + "`";
        names(readme, head, calls.keySet());
        calls.forEach((name, call) -> due.throwing(head + ": " + name, x, want, call));
    }

    /** The table's line with that head names just these calls. */
    private static void names(List<String> readme, String head, Set<String> want) {
        Set<String> named = new TreeSet<>();
        for (String line : readme) {
            if (line.startsWith("| " + head + " | ")) {
                String[] cells = line.split(" ?\\| ?");
                named.addAll(List.of(cells[cells.length - 1].replace("`", "").split(", ")));
            }
        }
        due.text("calls of the line " + head, named.toString(), new TreeSet<>(want).toString());
    }
}
