/** Promises 12 to 14: the witness, also when someone has changed it. */
final class WitnessTest {
    private static final Check CHECK = new Check("WitnessTest");

    public static void main(String[] args) {
        witness();
        setWitness();
        judgeWitness();
        wideWitness();
        witnessOfLargeNumbers();
        CHECK.end();
    }

    private static void witness() {
        RowSolver solver = Problems.open();
        CHECK.due("not begun", solver.witness(), Check.BAD);
        CHECK.due("0s do not do", solver.judgeWitness(), 1);
        solver.solve(1);
        CHECK.due("it goes on", solver.witness(), Check.BAD);
        solver.solve(20);
        CHECK.due("0s still", solver.judgeWitness(), 1);
        CHECK.due("SAT", solver.witness(), 0);
        CHECK.due("good", solver.judgeWitness(), 0);
        solver.whole(0, true);
        CHECK.due("1 is whole", solver.judgeWitness(), 0);
        solver.whole(1, true);
        CHECK.due("5/4 is not", solver.judgeWitness(), 101);
        CHECK.due("not begun again", solver.witness(), Check.BAD);
        RowSolver unsat = Problems.half();
        unsat.solve(20);
        CHECK.due("UNSAT", unsat.witness(), Check.BAD);
        RowSolver deep = Problems.far(1, 3);
        deep.solve(20);
        CHECK.due("DEEP", deep.witness(), Check.BAD);
    }

    private static void setWitness() {
        RowSolver solver = new RowSolver();
        solver.variables(2);
        Problems.row(solver, 2, 1, 2, 0);
        CHECK.due("set", solver.setWitness(0, 1, 2), 0);
        CHECK.due("good", solver.judgeWitness(), 0);
        int[] wrong = {-1, 2, 10, Integer.MAX_VALUE, Integer.MIN_VALUE};
        for (int x : wrong) {
            CHECK.due("setWitness(" + x + ", ..)", solver.setWitness(x, 1, 1), Check.BAD);
        }
        int[] belows = {0, -1, 1_000_000_001, Integer.MIN_VALUE, Integer.MAX_VALUE};
        for (int below : belows) {
            CHECK.due("setWitness(0, 1, " + below + ")", solver.setWitness(0, 1, below), Check.BAD);
        }
        int[] aboves = {1_000_000_001, -1_000_000_001, Integer.MIN_VALUE, Integer.MAX_VALUE};
        for (int above : aboves) {
            CHECK.due("setWitness(0, " + above + ", 1)", solver.setWitness(0, above, 1), Check.BAD);
        }
        CHECK.due("wrong ones change nothing", solver.judgeWitness(), 0);
        CHECK.due("edge", solver.setWitness(0, 1_000_000_000, 1_000_000_000), 0);
        CHECK.due("1 is not 1/2", solver.judgeWitness(), 1);
        CHECK.due("edge", solver.setWitness(0, -1_000_000_000, 1), 0);
        CHECK.due("bad", solver.judgeWitness(), 1);
        CHECK.due("not in lowest terms", solver.setWitness(0, 500_000_000, 1_000_000_000), 0);
        CHECK.due("good", solver.judgeWitness(), 0);
    }

    private static void judgeWitness() {
        RowSolver solver = Problems.open();
        int[][] cases = {{0, 1, 7, 4, 1}, {1, 1, 5, 4, 0}, {3, 1, 1, 4, 0}, {7, 2, 0, 1, 2}, {2, 1, 2, 4, 3},
            {2, 1, 4, 4, 3}, {2, 1, 3, 4, 0}, {5, 2, 1, 2, 0}, {4, 1, 4, 1, 2}, {-9, 1, 4, 1, 1}};
        for (int[] one : cases) {
            solver.setWitness(0, one[0], one[1]);
            solver.setWitness(1, one[2], one[3]);
            String what = one[0] + "/" + one[1] + ", " + one[2] + "/" + one[3];
            CHECK.due(what, solver.judgeWitness(), one[4]);
        }
        solver.whole(0, true);
        solver.whole(1, true);
        solver.setWitness(0, 5, 2);
        solver.setWitness(1, 1, 2);
        CHECK.due("x0 is not whole", solver.judgeWitness(), 100);
        solver.setWitness(0, 2, 1);
        CHECK.due("rows come first", solver.judgeWitness(), 3);
        solver.setWitness(1, 3, 4);
        CHECK.due("x1 is not whole", solver.judgeWitness(), 101);
        solver.whole(1, false);
        solver.setWitness(0, 6, 3);
        CHECK.due("6/3 is whole", solver.judgeWitness(), 0);
    }

    /** Sums of fractions with large denominators that have nothing in common. */
    private static void wideWitness() {
        RowSolver solver = new RowSolver();
        solver.variables(2);
        Problems.row(solver, 2, 1, 1, 1);
        solver.setWitness(0, 1, 999_999_999);
        solver.setWitness(1, 999_999_998, 999_999_999);
        CHECK.due("just 1", solver.judgeWitness(), 0);
        solver.setWitness(1, 999_999_999, 1_000_000_000);
        CHECK.due("a little above 1", solver.judgeWitness(), 1);
        int[] primes = {999_999_937, 999_999_929, 999_999_893, 999_999_883, 999_999_797};
        solver.variables(10);
        int[] ones = {1, 1, 1, 1, 1, 1, 1, 1, 1, 1};
        Problems.row(solver, 2, 5, ones);
        for (int k = 0; k < 5; k++) {
            solver.setWitness(2 * k, 1, primes[k]);
            solver.setWitness(2 * k + 1, primes[k] - 1, primes[k]);
        }
        CHECK.due("just 5", solver.judgeWitness(), 0);
        solver.setWitness(9, primes[4] - 1, primes[4] - 2);
        CHECK.due("a little above 5", solver.judgeWitness(), 1);
        Problems.row(solver, 1, 5, ones);
        solver.variables(10);
        Problems.row(solver, 1, 5, ones);
        CHECK.due("the witness is kept", solver.judgeWitness(), 0);
        Problems.row(solver, 0, 5, ones);
        CHECK.due("a little above 5", solver.judgeWitness(), 2);
    }

    /** A witness that was found, of which someone has changed a part. */
    private static void witnessOfLargeNumbers() {
        RowSolver solver = new RowSolver();
        solver.variables(4);
        Problems.row(solver, 2, 1_000_000, 1);
        Problems.row(solver, 2, 1, -1_000_000, 999_983);
        Problems.row(solver, 2, 2, 0, -1_000_000, 999_979);
        Problems.row(solver, 2, 3, 0, 0, -1_000_000, 999_961);
        solver.solve(100);
        CHECK.due("SAT", solver.witness(), 0);
        CHECK.due("good", solver.judgeWitness(), 0);
        solver.setWitness(3, 1_000_000_000, 999_999_937);
        CHECK.due("the last row", solver.judgeWitness(), 4);
        solver.setWitness(0, 999_999, 1);
        CHECK.due("the first row", solver.judgeWitness(), 1);
        CHECK.due("found again", solver.witness(), 0);
        CHECK.due("good again", solver.judgeWitness(), 0);
    }
}
