import java.lang.management.ManagementFactory;

/** All calls of an object stay within the room of one run, the dearest ones with the largest numbers too. */
public final class RoomTest {
    private static final int CALLS = 512;
    /**
     * The room has 600,000 objects and 7.3 million fields and elements. An object takes 16 bytes at
     * least and a field or element one, so with so many bytes a run keeps to both.
     */
    private static final long BYTES = 7_300_000L;
    private static final Due due = new Due("RoomTest");

    public static void main(String[] args) {
        run();
        com.sun.management.ThreadMXBean threads =
            (com.sun.management.ThreadMXBean) ManagementFactory.getThreadMXBean();
        long before = threads.getThreadAllocatedBytes(Thread.currentThread().getId());
        run();
        long made = threads.getThreadAllocatedBytes(Thread.currentThread().getId()) - before;
        due.truth("a run makes " + made + " bytes, at most " + BYTES, made <= BYTES);
        due.end();
    }

    private static void run() {
        MatrixDesk x = new MatrixDesk();
        x.make(0, 6, 6);
        x.make(1, 6, 1);
        for (int i = 0; i < 6; i++) {
            for (int j = 0; j < 6; j++) {
                long size = 999999999999999999L - (i * 31 + j * 17) % 23;
                x.put(0, i, j, (i * i + j * 5 + i * j) % 3 == 0 ? -size : size);
            }
            x.put(1, i, 0, 999999999999999999L - i);
        }
        for (int call = 50; call < CALLS; call++) {
            dear(x, call % 9);
        }
    }

    private static void dear(MatrixDesk x, int kind) {
        switch (kind) {
            case 0:
                due.number("check", x.check(0), 1);
                return;
            case 1:
                due.number("hermite", x.hermite(2, 0), MatrixDesk.LARGE);
                return;
            case 2:
                x.kernel(2, 0);
                return;
            case 3:
                x.solve(2, 0, 1);
                return;
            case 4:
                x.divisor(0, 4);
                return;
            case 5:
                x.factor(0, 6);
                return;
            case 6:
                x.inverse(0, 3, 4);
                return;
            case 7:
                x.characteristic(0, 2);
                return;
            default:
                x.multiply(2, 0, 0);
        }
    }
}
