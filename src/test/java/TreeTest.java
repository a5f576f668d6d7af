/** Promises 15 to 19: the tree, also when someone has changed it. */
final class TreeTest {
    private static final Check CHECK = new Check("TreeTest");

    public static void main(String[] args) {
        nodes();
        wrongNodes();
        multipliers();
        wrongMultipliers();
        setMultiplier();
        wrongSetMultiplier();
        setSplit();
        solvingGoesOnByWhatItFound();
        judgeTree();
        wrongBounds();
        judgeUnfinishedTree();
        conflictGivesWhatItNames();
        otherBoundStays();
        newLeavesHaveZeros();
        looserBoundsDoNotCount();
        CHECK.end();
    }

    private static void node(RowSolver solver, int k, int... due) {
        for (int what = 0; what < due.length; what++) {
            CHECK.due("node(" + k + ", " + what + ")", solver.node(k, what), due[what]);
        }
    }

    private static void nodes() {
        RowSolver solver = Problems.half();
        solver.solve(1);
        node(solver, 0, 2, Check.NONE, Check.NONE, Check.NONE, Check.NONE, Check.NONE);
        solver.solve(1);
        node(solver, 0, 0, 0, 0, 1, Check.NONE, Check.NONE);
        node(solver, 1, 2, Check.NONE, Check.NONE, Check.NONE, Check.NONE, 0);
        solver.solve(1);
        node(solver, 0, 0, 0, 0, 1, 2, Check.NONE);
        node(solver, 1, 1, Check.NONE, Check.NONE, Check.NONE, Check.NONE, 0);
        node(solver, 2, 2, Check.NONE, Check.NONE, Check.NONE, Check.NONE, 0);
        solver.solve(1);
        node(solver, 2, 1, Check.NONE, Check.NONE, Check.NONE, Check.NONE, 0);
    }

    private static void wrongNodes() {
        RowSolver solver = Problems.half();
        CHECK.due("not begun", solver.node(0, 0), Check.NO_NODE);
        solver.solve(20);
        int[] wrong = {-1, 3, 301, Integer.MAX_VALUE, Integer.MIN_VALUE};
        for (int k : wrong) {
            CHECK.due("node(" + k + ", 0)", solver.node(k, 0), Check.NO_NODE);
        }
        int[] whats = {-1, 6, Integer.MAX_VALUE, Integer.MIN_VALUE};
        for (int what : whats) {
            CHECK.due("node(0, " + what + ")", solver.node(0, what), Check.NO_NODE);
            CHECK.due("node(1, " + what + ")", solver.node(1, what), Check.NO_NODE);
        }
        solver.row(0, 0);
        CHECK.due("begun no more", solver.node(0, 0), Check.NO_NODE);
    }

    private static void multipliers() {
        RowSolver solver = Problems.wedge();
        solver.solve(20);
        // s2 = 2 x0 - s0 is below 0 where x0 is at most 0; s1 = 2 x0 - s0 is above 0 where x0 is at least 1.
        int[][] due = {{1, 0, 0, -1}, {1, 0, 1, 0}, {1, 0, 2, -1}, {1, 1, 0, 2}, {1, 1, 1, 0}, {1, 2, 0, 0}, {1, 2, 1, 0},
            {2, 0, 0, 1}, {2, 0, 1, 1}, {2, 0, 2, 0}, {2, 1, 0, 0}, {2, 1, 1, 0}, {2, 2, 0, -2}, {2, 2, 1, 0}};
        for (int[] one : due) {
            String what = "multiplier(" + one[0] + ", " + one[1] + ", " + one[2] + ")";
            CHECK.hand(what, solver, solver.multiplier(one[0], one[1], one[2]), Check.ratio(one[3], 1));
        }
        RowSolver half = Problems.half();
        half.solve(20);
        CHECK.hand("row below x0's upper bound", half, half.multiplier(1, 0, 0), Check.ratio(-1, 2));
        CHECK.hand("x0's upper bound", half, half.multiplier(1, 1, 0), Check.ratio(1, 1));
        CHECK.hand("row above x0's lower bound", half, half.multiplier(2, 0, 0), Check.ratio(1, 2));
        CHECK.hand("x0's lower bound", half, half.multiplier(2, 2, 0), Check.ratio(-1, 1));
        CHECK.hand("no upper bound there", half, half.multiplier(2, 1, 0), Check.ratio(0, 1));
    }

    private static void wrongMultipliers() {
        RowSolver solver = Problems.wedge();
        CHECK.due("not begun", solver.multiplier(0, 0, 0), Check.NO_NUMBER);
        solver.solve(20);
        int[][] wrong = {{0, 0, 0}, {0, 1, 0}, {3, 0, 0}, {-1, 0, 0}, {1, -1, 0}, {1, 3, 0}, {1, 0, 3}, {1, 0, -1},
            {1, 1, 2}, {1, 2, 2}, {1, 1, -1}, {1, 2, Integer.MAX_VALUE}, {1, Integer.MIN_VALUE, 0}};
        for (int[] one : wrong) {
            String what = "(" + one[0] + ", " + one[1] + ", " + one[2] + ")";
            CHECK.due("multiplier" + what, solver.multiplier(one[0], one[1], one[2]), Check.NO_NUMBER);
            CHECK.due("setMultiplier" + what, solver.setMultiplier(one[0], one[1], one[2], 1, 1), Check.BAD);
        }
        CHECK.due("nothing came to hand", solver.digits(0, 0), Check.BAD);
        CHECK.due("and nothing was changed", solver.judgeTree(), 0);
    }

    private static void setMultiplier() {
        RowSolver solver = Problems.half();
        solver.solve(20);
        CHECK.due("set", solver.setMultiplier(1, 0, 0, -1_000_000_000, 999_999_999), 0);
        CHECK.due("edge", solver.multiplier(1, 0, 0), -1);
        CHECK.due("edge numerator", solver.digits(0, 0), 0);
        CHECK.due("edge numerator's next", solver.digits(0, 1), 1);
        CHECK.due("edge denominator", solver.digits(1, 0), 999_999_999);
        CHECK.due("not in lowest terms", solver.setMultiplier(1, 0, 0, -500_000_000, 1_000_000_000), 0);
        CHECK.hand("- 1/2", solver, solver.multiplier(1, 0, 0), Check.ratio(-1, 2));
        CHECK.due("as it was", solver.judgeTree(), 0);
        CHECK.due("twice the row", solver.setMultiplier(1, 0, 0, -1, 1), 0);
        CHECK.due("x0 does not go away", solver.judgeTree(), 2);
        CHECK.due("twice the bound", solver.setMultiplier(1, 1, 0, 2, 1), 0);
        CHECK.due("good again", solver.judgeTree(), 0);
        CHECK.due("a third of both", solver.setMultiplier(1, 0, 0, -1, 6), 0);
        CHECK.due("a third of both", solver.setMultiplier(1, 1, 0, 1, 3), 0);
        CHECK.due("good still", solver.judgeTree(), 0);
        CHECK.due("the node's sort stays", solver.node(1, 0), 1);
    }

    private static void wrongSetMultiplier() {
        RowSolver solver = Problems.half();
        CHECK.due("not begun", solver.setMultiplier(0, 0, 0, 1, 1), Check.BAD);
        solver.solve(20);
        int[][] wrong = {{1, 0}, {1, -1}, {1, 1_000_000_001}, {1_000_000_001, 1}, {-1_000_000_001, 1},
            {Integer.MIN_VALUE, 1}, {1, Integer.MIN_VALUE}, {1, Integer.MAX_VALUE}};
        for (int[] one : wrong) {
            String what = one[0] + " / " + one[1];
            CHECK.due("setMultiplier " + what, solver.setMultiplier(1, 0, 0, one[0], one[1]), Check.BAD);
        }
        CHECK.due("nothing was changed", solver.judgeTree(), 0);
    }

    private static void setSplit() {
        RowSolver solver = Problems.half();
        CHECK.due("not begun", solver.setSplit(0, 0), Check.BAD);
        solver.solve(1);
        CHECK.due("a leaf", solver.setSplit(0, 0), Check.BAD);
        solver.solve(20);
        int[] wrong = {1_000_000_001, -1_000_000_001, Integer.MAX_VALUE, Integer.MIN_VALUE};
        for (int f : wrong) {
            CHECK.due("setSplit(0, " + f + ")", solver.setSplit(0, f), Check.BAD);
        }
        int[] nodes = {-1, 1, 2, 3, Integer.MAX_VALUE, Integer.MIN_VALUE};
        for (int k : nodes) {
            CHECK.due("setSplit(" + k + ", 0)", solver.setSplit(k, 0), Check.BAD);
        }
        CHECK.due("nothing was changed", solver.judgeTree(), 0);
        CHECK.due("set", solver.setSplit(0, 5), 0);
        CHECK.due("told", solver.node(0, 2), 5);
        CHECK.due("the first side is - 1/2 + 5", solver.judgeTree(), 2);
        CHECK.due("set", solver.setSplit(0, -3), 0);
        CHECK.due("told", solver.node(0, 2), -3);
        CHECK.due("the second side is 1/2 + 2", solver.judgeTree(), 3);
        CHECK.due("edge", solver.setSplit(0, 1_000_000_000), 0);
        CHECK.due("told", solver.node(0, 2), 1_000_000_000);
        CHECK.due("edge", solver.setSplit(0, -1_000_000_000), 0);
        CHECK.due("told", solver.node(0, 2), -1_000_000_000);
        CHECK.due("as it was", solver.setSplit(0, 0), 0);
        CHECK.due("good", solver.judgeTree(), 0);
    }

    private static void solvingGoesOnByWhatItFound() {
        RowSolver solver = Problems.wedge();
        solver.solve(2);
        CHECK.due("set", solver.setSplit(0, 7), 0);
        CHECK.due("two steps", solver.solve(2), 2);
        CHECK.hand("x0 is f + 1 as it was found", solver, solver.value(0), Check.ratio(1, 1));
        CHECK.due("the end", solver.solve(20), 1);
        CHECK.states("the end", solver, 3, 5, 2, 2, 1, 0, 3, 2, 3);
        CHECK.due("judged by what was set", solver.judgeTree(), 2);
        solver.setSplit(0, 0);
        CHECK.due("good", solver.judgeTree(), 0);
    }

    private static void judgeTree() {
        // leaf, sort, which one, above, below, answer: signs, bounds that are not there, sums
        int[][] breaks = {{1, 0, 1, -1, 1, 2}, {1, 0, 2, 1, 1, 2}, {1, 1, 0, -2, 1, 2}, {1, 1, 1, 1, 1, 2}, {1, 2, 0, -1, 1, 2},
            {2, 1, 0, 1, 1, 3}, {2, 2, 0, 2, 1, 3}, {2, 2, 1, -1, 1, 3}, {2, 0, 0, 0, 1, 3}, {2, 0, 0, 1, 1, 0}};
        for (int[] one : breaks) {
            RowSolver solver = Problems.wedge();
            CHECK.due("not begun", solver.judgeTree(), Check.BAD);
            solver.solve(20);
            CHECK.due("good", solver.judgeTree(), 0);
            CHECK.due("set", solver.setMultiplier(one[0], one[1], one[2], one[3], one[4]), 0);
            String what = "leaf " + one[0] + " sort " + one[1] + " " + one[2] + " is " + one[3] + " / " + one[4];
            CHECK.due(what, solver.judgeTree(), one[5]);
            solver.whole(1, true);
            CHECK.due("not begun again", solver.judgeTree(), Check.BAD);
        }
        RowSolver both = Problems.wedge();
        both.solve(20);
        both.setMultiplier(2, 0, 0, 9, 1);
        CHECK.due("the second leaf", both.judgeTree(), 3);
        both.setMultiplier(1, 0, 0, 9, 1);
        CHECK.due("the first one that is not good", both.judgeTree(), 2);
        wrongSigns();
    }

    /** x0 at most 1 and at least 0: with turned signs it would be a conflict. */
    private static void wrongSigns() {
        RowSolver solver = new RowSolver();
        solver.variables(1);
        Problems.row(solver, 0, 1, 1);
        Problems.row(solver, 1, 0, 1);
        CHECK.due("SAT", solver.solve(9), 1);
        CHECK.due("an open leaf sums up to 0", solver.judgeTree(), 1);
        solver.setMultiplier(0, 0, 0, -1, 1);
        solver.setMultiplier(0, 0, 1, 1, 1);
        CHECK.due("below 0, but by wrong signs", solver.judgeTree(), 1);
        solver.setMultiplier(0, 0, 0, 1, 1);
        solver.setMultiplier(0, 0, 1, -1, 1);
        CHECK.due("right signs, but above 0", solver.judgeTree(), 1);
        for (int wrong = 0; wrong < 2; wrong++) {
            RowSolver one = new RowSolver();
            one.variables(1);
            Problems.row(one, wrong == 0 ? 0 : 2, 1, 1);
            Problems.row(one, wrong == 1 ? 1 : 2, 0, 1);
            one.solve(1);
            one.setMultiplier(0, 0, 0, -1, 1);
            one.setMultiplier(0, 0, 1, 1, 1);
            CHECK.due("one wrong sign, of row " + wrong, one.judgeTree(), 1);
        }
    }

    /** Each change keeps the sums: only the sign of a bound's multiplier is wrong, or the bound is not there. */
    private static void wrongBounds() {
        // b, f, leaf, its row's multiplier (halves), its upper bound's, its lower bound's, the answer
        int[][] cases = {{1, 5, 1, 1, -1, 0, 2}, {1, -5, 2, -1, 0, 1, 3}, {1, 0, 2, -1, 1, 0, 3}, {-1, -1, 1, 1, 0, -1, 2},
            {1, 0, 1, -1, 1, 0, 0}, {1, 0, 2, 1, 0, -1, 0}};
        for (int[] one : cases) {
            RowSolver solver = new RowSolver();
            solver.variables(1);
            Problems.row(solver, 2, one[0], 2);
            solver.whole(0, true);
            solver.solve(20);
            CHECK.due("good", solver.judgeTree(), 0);
            solver.setSplit(0, one[1]);
            solver.setMultiplier(one[2], 0, 0, one[3], 2);
            solver.setMultiplier(one[2], 1, 0, one[4], 1);
            solver.setMultiplier(one[2], 2, 0, one[5], 1);
            CHECK.due("leaf " + one[2] + " has " + one[4] + " and " + one[5], solver.judgeTree(), one[6]);
        }
    }

    private static void judgeUnfinishedTree() {
        RowSolver solver = Problems.half();
        solver.solve(1);
        CHECK.due("an open leaf", solver.judgeTree(), 1);
        solver.solve(1);
        CHECK.due("a split without its second side", solver.judgeTree(), 1);
        solver.solve(1);
        CHECK.due("an open second side", solver.judgeTree(), 3);
        CHECK.due("set by hand", solver.setMultiplier(2, 0, 0, 1, 2), 0);
        CHECK.due("set by hand", solver.setMultiplier(2, 2, 0, -1, 1), 0);
        CHECK.due("good already", solver.judgeTree(), 0);
        CHECK.due("but not closed", solver.node(2, 0), 2);
        solver.solve(1);
        CHECK.due("closed", solver.node(2, 0), 1);
        CHECK.due("good", solver.judgeTree(), 0);
    }

    /** x0 at most 0, x0 at least 1, 0 at most 0: s0 = s1 is above 0, and row 2 has no part in that. */
    private static RowSolver apart() {
        RowSolver solver = new RowSolver();
        solver.variables(2);
        Problems.row(solver, 0, 0, 1, 0);
        Problems.row(solver, 1, 1, 1, 0);
        Problems.row(solver, 0, 0, 0, 0);
        CHECK.due("an exchange", solver.solve(1), 1);
        CHECK.due("that leaves the leaf open", solver.node(0, 0), 2);
        return solver;
    }

    private static void conflictGivesWhatItNames() {
        RowSolver solver = apart();
        CHECK.due("named", solver.setMultiplier(0, 0, 0, 7, 3), 0);
        CHECK.due("named", solver.setMultiplier(0, 0, 1, 7, 3), 0);
        CHECK.due("not named", solver.setMultiplier(0, 0, 2, 4, 6), 0);
        CHECK.hand("while it is open", solver, solver.multiplier(0, 0, 2), Check.ratio(2, 3));
        CHECK.due("the conflict", solver.solve(20), 1);
        CHECK.due("closed", solver.node(0, 0), 1);
        CHECK.hand("given by the conflict", solver, solver.multiplier(0, 0, 0), Check.ratio(1, 1));
        CHECK.hand("given by the conflict", solver, solver.multiplier(0, 0, 1), Check.ratio(-1, 1));
        CHECK.hand("as it was set", solver, solver.multiplier(0, 0, 2), Check.ratio(2, 3));
        CHECK.due("0 at most 0 does no harm", solver.judgeTree(), 0);
        int[] sorts = {1, 2};
        for (int sort : sorts) {
            RowSolver bound = apart();
            CHECK.due("a bound", bound.setMultiplier(0, sort, 1, 3 - 2 * sort, 1), 0);
            bound.solve(20);
            CHECK.hand("as it was set", bound, bound.multiplier(0, sort, 1), Check.ratio(3 - 2 * sort, 1));
            CHECK.due("x1 has no bound", bound.judgeTree(), 1);
            CHECK.due("as if never set", bound.setMultiplier(0, sort, 1, 0, 1), 0);
            CHECK.due("good", bound.judgeTree(), 0);
        }
    }

    /** A variable's two bounds have a multiplier each: the conflict names the one, the other stays. */
    private static void otherBoundStays() {
        RowSolver solver = Problems.half();
        solver.solve(2);
        CHECK.due("set", solver.setMultiplier(1, 2, 0, -5, 1), 0);
        solver.solve(1);
        CHECK.hand("its upper bound's by the conflict", solver, solver.multiplier(1, 1, 0), Check.ratio(1, 1));
        CHECK.hand("its lower bound's as it was set", solver, solver.multiplier(1, 2, 0), Check.ratio(-5, 1));
        CHECK.due("which is not there", solver.judgeTree(), 2);
        CHECK.hand("the second side's are 0", solver, solver.multiplier(2, 2, 0), Check.ratio(0, 1));
        CHECK.due("set", solver.setMultiplier(2, 1, 0, 5, 1), 0);
        solver.solve(1);
        CHECK.hand("its lower bound's by the conflict", solver, solver.multiplier(2, 2, 0), Check.ratio(-1, 1));
        CHECK.hand("its upper bound's as it was set", solver, solver.multiplier(2, 1, 0), Check.ratio(5, 1));
        CHECK.due("the first one", solver.judgeTree(), 2);
        solver.setMultiplier(1, 2, 0, 0, 1);
        CHECK.due("the second one", solver.judgeTree(), 3);
        solver.setMultiplier(2, 1, 0, 0, 1);
        CHECK.due("good", solver.judgeTree(), 0);
    }

    /** What was set of a leaf goes with it: a leaf that comes to be has 0s. */
    private static void newLeavesHaveZeros() {
        RowSolver solver = Problems.half();
        for (int round = 0; round < 2; round++) {
            solver.solve(1);
            CHECK.hand("the first leaf", solver, solver.multiplier(0, 2, 0), Check.ratio(0, 1));
            for (int sort = 0; sort < 3; sort++) {
                CHECK.due("set", solver.setMultiplier(0, sort, 0, 9, 1), 0);
            }
            solver.solve(1);
            CHECK.due("a split has none", solver.multiplier(0, 0, 0), Check.NO_NUMBER);
            for (int sort = 0; sort < 3; sort++) {
                CHECK.hand("the first side", solver, solver.multiplier(1, sort, 0), Check.ratio(0, 1));
                CHECK.due("set", solver.setMultiplier(1, sort, 0, 9, 1), 0);
            }
            solver.solve(1);
            for (int sort = 0; sort < 3; sort++) {
                CHECK.hand("the second side", solver, solver.multiplier(2, sort, 0), Check.ratio(0, 1));
                CHECK.due("set", solver.setMultiplier(2, sort, 0, 9, 1), 0);
            }
            solver.whole(0, true);
        }
        solver.solve(20);
        CHECK.due("good", solver.judgeTree(), 0);
    }

    /** 2 x0 + 2 x1 = 1 with x0, x1 from -2 to 2: splits of x0 inside others of x0. */
    private static void looserBoundsDoNotCount() {
        RowSolver solver = new RowSolver();
        solver.variables(2);
        Problems.row(solver, 2, 1, 2, 2);
        for (int x = 0; x < 2; x++) {
            solver.factor(x, 1);
            solver.row(1, -2);
            solver.factor(x, 1);
            solver.row(0, 2);
            solver.whole(x, true);
        }
        solver.solve(20_000);
        CHECK.states("UNSAT", solver, 3, 26, 9, 9, 8, 0, 5, 2, 17);
        CHECK.due("good", solver.judgeTree(), 0);
        // Leaf 7 is below x0 <= 0 (node 0), x0 <= -1 (node 3), x0 <= -2 (node 6), and leaf 15 below x0 >= 1 (node 0)
        // and x0 >= 2 (node 11); leaf 16 below x0 >= 1 alone.
        CHECK.due("node 0 says x0 <= -5 or x0 >= -4", solver.setSplit(0, -5), 0);
        CHECK.due("leaf 15 still has x0 >= 2, leaf 16 does not", solver.judgeTree(), 17);
        CHECK.due("node 6 says x0 <= 9 or x0 >= 10", solver.setSplit(6, 9), 0);
        CHECK.due("leaf 7 still has x0 <= -5", solver.judgeTree(), 17);
        CHECK.due("node 0 as it was", solver.setSplit(0, 0), 0);
        CHECK.due("leaf 7 now has x0 <= -1", solver.judgeTree(), 8);
    }
}
