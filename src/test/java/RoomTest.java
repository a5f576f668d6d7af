import java.lang.management.ManagementFactory;

/** All calls of one run live in one room: what is made is made once and used again. */
final class RoomTest {
    private static final Check CHECK = new Check("RoomTest");
    private static final long MOST_BYTES = 2_000_000;
    private static final com.sun.management.ThreadMXBean THREADS =
            (com.sun.management.ThreadMXBean) ManagementFactory.getThreadMXBean();

    public static void main(String[] args) {
        if (!THREADS.isThreadAllocatedMemorySupported()) {
            System.out.println("RoomTest: this machine does not tell what is made");
            System.exit(0);
        }
        run(2);
        long made = run(480);
        System.out.println("RoomTest: " + made + " bytes by the dearest run");
        CHECK.due("at most", Math.max(made, MOST_BYTES), MOST_BYTES);
        CHECK.due("a new object is small", Math.max(newObject(), 60_000), 60_000);
        lastCall();
        CHECK.end();
    }

    private static long made() {
        return THREADS.getThreadAllocatedBytes(Thread.currentThread().getId());
    }

    private static long newObject() {
        long before = made();
        new RowSolver();
        return made() - before;
    }

    /** An object is used for 512 calls; the last of them is answered as the first ones. */
    private static void lastCall() {
        RowSolver solver = Problems.half();
        for (int call = 5; call <= 511; call++) {
            if (call % 7 == 0) {
                solver.whole(0, true);
            } else {
                solver.solve(call % 7);
            }
        }
        // Call 511 told that x0 is whole: nothing is begun.
        CHECK.due("call 512", solver.solve(20_000), 4);
    }

    /** As many splits as there can be, solved again and again, judged and told. */
    private static long run(int calls) {
        long before = made();
        RowSolver solver = Problems.boxed(5, new int[] {-2, -6, 4}, new int[] {10, 4, 3});
        for (int k = 0; k < calls; k += 5) {
            solver.whole(0, true);
            solver.solve(20_000);
            solver.judgeTree();
            solver.multiplier(300 - k % 100, 0, 0);
            solver.value(k % 10);
        }
        return made() - before;
    }
}
