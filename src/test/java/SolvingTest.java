/** Promises 6 to 8: the steps one by one, what is counted, which places are basic, and where it ends. */
final class SolvingTest {
    private static final Check CHECK = new Check("SolvingTest");

    public static void main(String[] args) {
        wrongCalls();
        withoutRows();
        halfStepByStep();
        wedgeStepByStep();
        zeroRow();
        lowestPlacesFirst();
        deepByOpenSplits();
        deepBySplitsMade();
        deepByFarSplits();
        startsAnew();
        CHECK.end();
    }

    private static void wrongCalls() {
        RowSolver solver = Problems.open();
        int[] wrong = {0, -1, 20_001, Integer.MAX_VALUE, Integer.MIN_VALUE};
        for (int n : wrong) {
            CHECK.due("solve(" + n + ")", solver.solve(n), Check.BAD);
        }
        CHECK.due("not begun by that", solver.state(0), 0);
        CHECK.due("basic before", solver.basic(0), Check.BAD);
        CHECK.due("solve(20000)", solver.solve(20_000), 3);
        CHECK.due("solve when it has ended", solver.solve(20_000), 0);
        CHECK.due("solve(0) when it has ended", solver.solve(0), Check.BAD);
        int[] places = {-1, 5, 22, Integer.MAX_VALUE, Integer.MIN_VALUE};
        for (int place : places) {
            CHECK.due("basic(" + place + ")", solver.basic(place), Check.BAD);
        }
        int[] whats = {-1, 9, Integer.MAX_VALUE, Integer.MIN_VALUE};
        for (int what : whats) {
            CHECK.due("state(" + what + ")", solver.state(what), Check.BAD);
        }
    }

    private static void withoutRows() {
        RowSolver solver = new RowSolver();
        solver.variables(3);
        solver.whole(2, true);
        CHECK.due("no rows", solver.solve(5), 1);
        CHECK.states("no rows", solver, 2, 1, 0, 0, 0, 0, 0, 3, 1);
        CHECK.due("x2 is not basic", solver.basic(2), 0);
        CHECK.due("no s0", solver.basic(3), Check.BAD);
    }

    private static void basics(String what, RowSolver solver, int... due) {
        for (int place = 0; place < due.length; place++) {
            CHECK.due(what + " basic(" + place + ")", solver.basic(place), due[place]);
        }
    }

    private static void halfStepByStep() {
        RowSolver solver = Problems.half();
        CHECK.due("exchange", solver.solve(1), 1);
        CHECK.states("exchange", solver, 1, 1, 1, 0, 0, 0, 1, 1, 1);
        basics("exchange", solver, 1, 0);
        CHECK.due("split", solver.solve(1), 1);
        CHECK.states("split", solver, 1, 2, 1, 0, 1, 1, 1, 1, 2);
        CHECK.due("conflict and back", solver.solve(1), 1);
        CHECK.states("conflict and back", solver, 1, 3, 1, 1, 1, 1, 1, 1, 3);
        CHECK.due("conflict", solver.solve(7), 1);
        CHECK.states("conflict", solver, 3, 4, 1, 2, 1, 0, 1, 1, 3);
        basics("at the end", solver, 1, 0);
        CHECK.due("no more", solver.solve(7), 0);
    }

    private static void wedgeStepByStep() {
        RowSolver solver = Problems.wedge();
        CHECK.due("two exchanges around a split", solver.solve(3), 3);
        CHECK.states("two exchanges", solver, 1, 3, 2, 0, 1, 1, 3, 2, 2);
        basics("x0 at its bound", solver, 0, 1, 0, 1, 1);
        CHECK.hand("x1", solver, solver.value(1), Check.ratio(-1, 1));
        CHECK.due("conflict and back", solver.solve(1), 1);
        CHECK.states("back", solver, 1, 4, 2, 1, 1, 1, 3, 2, 3);
        CHECK.hand("x0 moved", solver, solver.value(0), Check.ratio(1, 1));
        CHECK.hand("x1 followed", solver, solver.value(1), Check.ratio(1, 1));
        CHECK.hand("s0 stays", solver, solver.value(2), Check.ratio(1, 1));
        CHECK.hand("s1 followed", solver, solver.value(3), Check.ratio(1, 1));
        CHECK.hand("s2 followed", solver, solver.value(4), Check.ratio(1, 1));
        CHECK.due("conflict", solver.solve(100), 1);
        CHECK.states("unsat", solver, 3, 5, 2, 2, 1, 0, 3, 2, 3);
    }

    private static void zeroRow() {
        RowSolver solver = new RowSolver();
        solver.variables(1);
        solver.row(0, 0);
        solver.row(1, 0);
        solver.row(2, 0);
        CHECK.due("0 is within", solver.solve(9), 1);
        CHECK.due("0 is within", solver.state(0), 2);
        solver.row(0, -1);
        CHECK.due("0 at most -1", solver.solve(9), 1);
        CHECK.states("0 at most -1", solver, 3, 1, 0, 1, 0, 0, 4, 1, 1);
    }

    /** Both rows are broken, and either variable could mend them: the first ones are taken. */
    private static void lowestPlacesFirst() {
        RowSolver solver = new RowSolver();
        solver.variables(3);
        Problems.row(solver, 0, 5, 1, 1, 1);
        Problems.row(solver, 0, -4, 0, 2, -1);
        Problems.row(solver, 1, 6, 1, 0, 3);
        solver.solve(1);
        // s1 is above - 4: x1 with a = 2, turned below 0, has no lower bound.
        basics("x1 for s1", solver, 0, 1, 0, 1, 0, 1);
        CHECK.hand("x1", solver, solver.value(1), Check.ratio(-2, 1));
        solver.solve(1);
        // s2 = x0 + 3 x2 is below 6: x0.
        basics("x0 for s2", solver, 1, 1, 0, 1, 0, 0);
        CHECK.hand("x0", solver, solver.value(0), Check.ratio(6, 1));
        CHECK.due("SAT", solver.solve(9), 1);
        CHECK.states("SAT", solver, 2, 3, 2, 0, 0, 0, 3, 3, 1);
    }

    private static void deepByOpenSplits() {
        RowSolver solver = new RowSolver();
        solver.variables(2);
        Problems.row(solver, 2, 1, 2, 2);
        solver.whole(0, true);
        solver.whole(1, true);
        CHECK.due("24 open", solver.solve(20_000), 62);
        CHECK.states("24 open", solver, 4, 62, 25, 12, 24, 24, 1, 2, 37);
        CHECK.due("stays", solver.solve(1), 0);
    }

    private static void deepBySplitsMade() {
        RowSolver solver = Problems.boxed(-17, new int[] {-6, 6, -10}, new int[] {12, 5, 9});
        CHECK.due("150 made", solver.solve(20_000), 459);
        CHECK.states("150 made", solver, 4, 459, 168, 140, 150, 18, 7, 3, 291);
        CHECK.due("stays", solver.solve(1), 0);
        CHECK.due("the last leaf is open", solver.node(290, 0), 2);
        CHECK.due("there is none behind it", solver.node(291, 0), Check.NO_NODE);
        RowSolver last = Problems.boxed(5, new int[] {-2, -6, 4}, new int[] {10, 4, 3});
        for (int round = 0; round < 3; round++) {
            CHECK.due("150 are enough", last.solve(20_000), 502);
            CHECK.states("150 are enough", last, 3, 502, 201, 151, 150, 0, 7, 3, 301);
            CHECK.due("good", last.judgeTree(), 0);
            CHECK.due("the last node", last.node(300, 0), 1);
            last.whole(0, true);
        }
    }

    private static void deepByFarSplits() {
        int[][] cases = {{1, 1, 3}, {1, 3, 4}, {-1, 1, 3}, {-1, -1, 4}, {1, -1, 3}, {1, 1_000_000 - 1, 4}};
        for (int[] one : cases) {
            String what = "far(" + one[0] + ", " + one[1] + ")";
            RowSolver solver = Problems.far(one[0], one[1]);
            solver.solve(20_000);
            CHECK.due(what + " end", solver.state(0), one[2]);
            CHECK.due(what + " splits", solver.state(4), one[2] == 3 ? 1 : 0);
            CHECK.due(what + " nodes", solver.state(8), one[2] == 3 ? 3 : 1);
            CHECK.due(what + " tree", solver.judgeTree(), one[2] == 3 ? 0 : 1);
            CHECK.due(what + " f is cut", solver.node(0, 2), one[2] == 3 ? one[0] * 2_000_000_000 : Check.NONE);
        }
        for (int end = 3; end <= 9; end++) {
            RowSolver solver = farther(end);
            solver.solve(20_000);
            CHECK.due("10^" + 6 * end + " + 1/2", solver.state(0), end == 3 ? 3 : 4);
            CHECK.due("10^" + 6 * end + " + 1/2 splits", solver.state(4), end == 3 ? 1 : 0);
        }
    }

    /** Each variable is 10^6 times the one before it, the last one 1/2 more, and whole. */
    private static RowSolver farther(int end) {
        RowSolver solver = new RowSolver();
        solver.variables(end + 1);
        Problems.row(solver, 2, 1_000_000, 1);
        for (int x = 1; x <= end; x++) {
            solver.factor(x - 1, x < end ? -1_000_000 : -2);
            solver.factor(x, x < end ? 1 : 2);
            solver.row(2, x < end ? 0 : 1);
        }
        solver.whole(end, true);
        return solver;
    }

    private static void startsAnew() {
        RowSolver solver = Problems.half();
        solver.solve(20);
        solver.whole(0, false);
        CHECK.due("now it is no split", solver.solve(20), 2);
        CHECK.states("anew", solver, 2, 2, 1, 0, 0, 0, 1, 1, 1);
        CHECK.hand("x0", solver, solver.value(0), Check.ratio(1, 2));
        CHECK.due("no multipliers are left", solver.multiplier(0, 0, 0), 0);
    }
}
