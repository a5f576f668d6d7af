/** Terms, THE TREE: the nodes as they come to be, the multipliers of each sort of conflict, and what makes a leaf GOOD. */
final class LeavesTest {
    private static final Check CHECK = new Check("LeavesTest");
    private static final int MOST = 1_000_000_000;

    public static void main(String[] args) {
        theFirstNode();
        nodesInOrder();
        conflictsOfRows();
        conflictsOfVariables();
        oneMultiplierForBothBounds();
        leavesThatAreNotClosed();
        leavesAreOpenAnew();
        treeOfSat();
        treeOfDeep();
        rowsAtMost();
        rowsAtLeast();
        rowsEqual();
        upperBounds();
        lowerBounds();
        boundsThatAreNotThere();
        leastUpperBound();
        greatestLowerBound();
        bothBoundsOfAVariable();
        eachVariable();
        togetherBelowZero();
        splitsWithBothSides();
        CHECK.end();
    }

    private static RowSolver solved(String wholes, String... rows) {
        RowSolver solver = Problems.told(wholes, rows);
        solver.solve(20_000);
        return solver;
    }

    private static void theFirstNode() {
        RowSolver solver = Problems.told("W", "2 = 1");
        CHECK.due("none before it begins", solver.state(8), 0);
        CHECK.due("none before it begins", solver.node(0, 0), Check.NO_NODE);
        solver.solve(1);
        CHECK.due("one when it begins", solver.state(8), 1);
        CHECK.due("a leaf", Show.node(solver, 0), "2 none none none none none");
    }

    private static void nodesInOrder() {
        RowSolver solver = solved("WW", "-3 -1 <= 3", "2 -2 <= -1", "-2 -4 = 1");
        String[] nodes = {"0 0 -1 1 6 none", "0 0 -2 2 3 0", "1 none none none none 1", "0 1 0 4 5 1",
            "1 none none none none 3", "1 none none none none 3", "1 none none none none 0"};
        CHECK.due("nodes", solver.state(8), nodes.length);
        for (int k = 0; k < nodes.length; k++) {
            CHECK.due("node " + k, Show.node(solver, k), nodes[k]);
        }
        CHECK.due("GOOD", solver.judgeTree(), 0);
    }

    private static void leaf(String what, RowSolver solver, int k, String due) {
        solver.solve(20);
        CHECK.due(what, solver.node(k, 0), 1);
        CHECK.due(what, Show.leaf(solver, k), due);
    }

    private static void conflictsOfRows() {
        leaf("below, s, a above 0", Problems.told("W", "1 >= 0", "1 <= -1"), 0, "s0=-1 s1=1");
        leaf("below, s, a below 0", Problems.told("-", "1 >= 1", "-1 = 0"), 0, "s0=-1 s1=-1");
        leaf("above, s, a above 0", Problems.told("-", "1 <= 0", "1 = 1"), 0, "s0=1 s1=-1");
        leaf("above, s, a below 0", Problems.told("W", "-1 = -1", "1 = 0"), 0, "s0=1 s1=1");
        leaf("below, x, a above 0", Problems.told("W", "-2 >= 1", "2 >= -1"), 1, "s1=-1 u0=2");
        leaf("below, x, a below 0", Problems.told("W", "2 >= 1", "-2 = -1"), 2, "s1=-1 l0=-2");
        leaf("above, x, a above 0", Problems.told("W", "2 <= -1", "-2 <= 1"), 2, "s0=1 l0=-2");
        leaf("above, x, a below 0", Problems.told("W", "2 <= -1", "-2 <= 1"), 1, "s1=1 u0=2");
        leaf("told by none, below", Problems.told("W", "0 >= 1"), 0, "s0=-1");
        leaf("told by none, above", Problems.told("W", "0 <= -1"), 0, "s0=1");
    }

    private static void conflictsOfVariables() {
        leaf("above, s, a above 0", Problems.told("W", "2 = 1"), 1, "s0=-1/2 u0=1");
        leaf("below, s, a above 0", Problems.told("W", "2 = 1"), 2, "s0=1/2 l0=-1");
        leaf("above, s, a below 0", Problems.told("W", "-2 = -1"), 1, "s0=1/2 u0=1");
        leaf("below, s, a below 0", Problems.told("W", "-2 = -1"), 2, "s0=-1/2 l0=-1");
        leaf("above, x, a above 0", Problems.told("WW", "-2 2 = -1", "0 -1 <= 0"), 3, "s0=-1/2 u1=1 l0=-1");
        leaf("above, x, a below 0", Problems.told("WW", "2 2 >= 1"), 2, "s0=-1/2 u0=1 u1=1");
        leaf("below, x, a above 0", Problems.told("WW", "-2 2 = -1", "0 -1 <= 1"), 5, "s0=1/2 u0=1 l1=-1");
        leaf("below, x, a below 0", Problems.told("WW", "0 -1 >= -1", "-2 -2 = 1"), 5, "s1=-1/2 l0=-1 l1=-1");
    }

    /** The equal row's multiplier has either sign: s0 is below 1 for the one, above - 1 for the other. */
    private static void oneMultiplierForBothBounds() {
        RowSolver below = solved("-", "0 = 1");
        CHECK.due("its lower bound", Show.leaf(below, 0), "s0=-1");
        CHECK.due("GOOD", below.judgeTree(), 0);
        RowSolver above = solved("-", "0 = -1");
        CHECK.due("its upper bound", Show.leaf(above, 0), "s0=1");
        CHECK.due("GOOD", above.judgeTree(), 0);
    }

    private static void leavesThatAreNotClosed() {
        RowSolver solver = Problems.told("WW", "2 2 >= 1");
        solver.solve(1);
        CHECK.due("the first one", Show.leaf(solver, 0), "");
        solver.solve(1);
        CHECK.due("a first side", Show.node(solver, 1), "2 none none none none 0");
        CHECK.due("a first side", Show.leaf(solver, 1), "");
        solver.solve(3);
        CHECK.due("a second side", Show.node(solver, 3), "2 none none none none 1");
        CHECK.due("a second side", Show.leaf(solver, 3), "");
        CHECK.hand("0 comes to hand", solver, solver.multiplier(3, 0, 0), Check.ratio(0, 1));
    }

    /** Where a tree was, another one begins: its leaves are not closed, and their multipliers are 0. */
    private static void leavesAreOpenAnew() {
        RowSolver solver = solved("W", "2 = 1");
        solver.whole(0, true);
        int[] nodes = {1, 2, 3};
        for (int k = 0; k < nodes.length; k++) {
            solver.solve(1);
            CHECK.due("nodes", solver.state(8), nodes[k]);
            CHECK.due("the last leaf", Show.node(solver, k), k == 0 ? "2 none none none none none" : "2 none none none none 0");
            CHECK.due("the last leaf", Show.leaf(solver, k), "");
        }
        solver.row(1, 1);
        solver.solve(1);
        CHECK.due("an exchange, as before", Show.node(solver, 0), "2 none none none none none");
        solver.solve(1);
        CHECK.due("0 is not 1 or more", Show.node(solver, 0), "1 none none none none none");
        CHECK.due("0 is not 1 or more", Show.leaf(solver, 0), "s1=-1");
    }

    private static void treeOfSat() {
        RowSolver solver = solved("W", "2 <= -1");
        CHECK.due("SAT", Show.states(solver), "2 4 2 0 1 1 1 1 2");
        CHECK.due("its split", Show.node(solver, 0), "0 0 -1 1 none none");
        CHECK.due("its leaf", Show.node(solver, 1), "2 none none none none 0");
        CHECK.due("its leaf", Show.leaf(solver, 1), "");
        CHECK.due("judged", solver.judgeTree(), 1);
    }

    private static void treeOfDeep() {
        RowSolver solver = solved("WW", "2 -2 = -1");
        CHECK.due("DEEP", Show.states(solver), "4 50 25 0 24 24 1 2 25");
        CHECK.due("its first split", Show.node(solver, 0), "0 0 -1 1 none none");
        CHECK.due("its last split", Show.node(solver, 23).substring(0, 1), "0");
        CHECK.due("its leaf", Show.node(solver, 24), "2 none none none none 23");
        CHECK.due("its leaf", Show.leaf(solver, 24), "");
        CHECK.due("judged", solver.judgeTree(), 1);
    }

    /** 0 at least 1 is the conflict; the row 1 of the same 0s does not change any sum: only its sign counts. */
    private static void signs(String row, int below, int at, int above) {
        int[] due = {below, at, above};
        for (int sign = -1; sign <= 1; sign++) {
            for (int size = 1; size <= MOST; size += MOST - 1) {
                RowSolver solver = solved("-", "0 >= 1", row);
                CHECK.due("GOOD", solver.judgeTree(), 0);
                CHECK.due("set", solver.setMultiplier(0, 0, 1, sign, size), 0);
                CHECK.due(row + " has " + sign + " / " + size, solver.judgeTree(), due[sign + 1]);
            }
        }
    }

    private static void rowsAtMost() {
        signs("0 <= 0", 1, 0, 0);
    }

    private static void rowsAtLeast() {
        signs("0 >= 0", 0, 0, 1);
    }

    private static void rowsEqual() {
        signs("0 = 0", 0, 0, 0);
    }

    /** Of 2 x0 = 1 the leaf has new multipliers, the split a new f: all sums are as they must be. */
    private static int judged(int f, int leaf, int halves, int upper, int lower) {
        RowSolver solver = solved("W", "2 = 1");
        solver.setSplit(0, f);
        solver.setMultiplier(leaf, 0, 0, halves, 2);
        solver.setMultiplier(leaf, 1, 0, upper, 1);
        solver.setMultiplier(leaf, 2, 0, lower, 1);
        return solver.judgeTree();
    }

    private static void upperBounds() {
        CHECK.due("above 0", judged(0, 1, -1, 1, 0), 0);
        CHECK.due("below 0: 1/2 - 5", judged(5, 1, 1, -1, 0), 2);
    }

    private static void lowerBounds() {
        CHECK.due("below 0", judged(0, 2, 1, 0, -1), 0);
        CHECK.due("above 0: - 1/2 - 4", judged(-5, 2, -1, 0, 1), 3);
    }

    /** Leaf 1 has no lower bound of x0, leaf 2 no upper one, x1 has none at all: each is made up for by another one. */
    private static void boundsThatAreNotThere() {
        // leaf, sort, variable, multiplier; then sort, which one and multiplier of the other, and what that was
        int[][] cases = {{1, 2, 0, -1, 1, 0, 2, 1}, {2, 1, 0, 1, 2, 0, -2, -1}, {1, 1, 1, 1, 0, 1, -1, 0},
            {1, 2, 1, -1, 0, 1, 1, 0}, {2, 1, 1, 1, 0, 1, -1, 0}, {2, 2, 1, -1, 0, 1, 1, 0}};
        for (int[] one : cases) {
            RowSolver solver = solved("W-", "2 0 = 1", "0 1 = 0");
            String what = "leaf " + one[0] + " sort " + one[1] + " x" + one[2];
            CHECK.due("GOOD", solver.judgeTree(), 0);
            CHECK.due(what, solver.setMultiplier(one[0], one[1], one[2], one[3], 1), 0);
            CHECK.due(what, solver.judgeTree(), 1 + one[0]);
            CHECK.due(what + ", the other", solver.setMultiplier(one[0], one[4], one[5], one[6], 1), 0);
            CHECK.due(what + ", made up for", solver.judgeTree(), 1 + one[0]);
            CHECK.due(what + " is 0", solver.setMultiplier(one[0], one[1], one[2], 0, MOST), 0);
            CHECK.due(what + ", the other", solver.setMultiplier(one[0], one[4], one[5], one[7], 1), 0);
            CHECK.due(what + " is 0", solver.judgeTree(), 0);
        }
        RowSolver without = solved("W", "0 >= 1", "1 <= 0", "1 >= 0");
        CHECK.due("GOOD", without.judgeTree(), 0);
        without.setMultiplier(0, 1, 0, 1, 1);
        without.setMultiplier(0, 0, 2, -1, 1);
        CHECK.due("without splits", without.judgeTree(), 1);
    }

    /** x0 at most - 1 (node 0), at most - 2 (node 1): leaf 2 sums up to 11/10 and x0's upper bound. */
    private static void leastUpperBound() {
        RowSolver solver = solved("WW", "-3 -1 <= 3", "2 -2 <= -1", "-2 -4 = 1");
        CHECK.due("leaf 2", Show.leaf(solver, 2), "s0=2/5 s2=-1/10 u0=1");
        CHECK.due("GOOD by the inner one", solver.judgeTree(), 0);
        solver.setSplit(1, 5);
        CHECK.due("the outer one is the least, and not enough", solver.judgeTree(), 3);
        solver.setSplit(0, -2);
        // Leaf 6 has 3/2 then.
        CHECK.due("leaf 2 is GOOD by the outer one", solver.judgeTree(), 7);
    }

    /** x0 at least 1 (node 0), at least 2 (node 4): leaf 8 sums up to 1 - 3/4 of x0's lower bound. */
    private static void greatestLowerBound() {
        RowSolver solver = solved("WWW", "0 -2 0 >= -4", "0 -3 1 = -5", "-3 -4 4 = -8", "-1 3 1 >= 3");
        CHECK.due("leaf 8", Show.leaf(solver, 8), "s0=-1 s1=1 s2=-1/4 l0=-3/4");
        CHECK.due("GOOD by the inner one", solver.judgeTree(), 0);
        solver.setSplit(4, -50);
        CHECK.due("the outer one is the greatest, and not enough", solver.judgeTree(), 9);
        solver.setSplit(0, 1);
        CHECK.due("GOOD by the outer one", solver.judgeTree(), 0);
    }

    /** Leaf 4 has x0 at most - 1 (node 0) and at least - 1 (node 1). */
    private static void bothBoundsOfAVariable() {
        RowSolver solver = solved("WW", "-3 -1 <= 3", "2 -2 <= -1", "-2 -4 = 1");
        solver.setMultiplier(4, 0, 2, 0, 1);
        solver.setMultiplier(4, 1, 1, 0, 1);
        solver.setMultiplier(4, 1, 0, 1, 1);
        CHECK.due("x0 alone does not go away", solver.judgeTree(), 5);
        solver.setMultiplier(4, 2, 0, -1, 1);
        CHECK.due("- 1 and 1 are not below 0", solver.judgeTree(), 5);
        solver.setSplit(0, -2);
        CHECK.due("- 2 and 1 are: leaf 6 is next", solver.judgeTree(), 7);
        solver.setMultiplier(4, 2, 0, -1, 2);
        CHECK.due("half of x0 is left", solver.judgeTree(), 5);
    }

    private static void eachVariable() {
        RowSolver solver = new RowSolver();
        solver.variables(10);
        solver.row(1, 1);
        for (int x = 0; x < 10; x++) {
            solver.factor(x, 1);
            solver.row(2, 0);
        }
        solver.solve(20_000);
        CHECK.due("GOOD", solver.judgeTree(), 0);
        for (int x = 0; x < 10; x++) {
            solver.setMultiplier(0, 0, 1 + x, x % 2 == 0 ? 1 : -1, MOST);
            CHECK.due("a little of x" + x, solver.judgeTree(), 1);
            solver.setMultiplier(0, 0, 1 + x, 0, 1);
            CHECK.due("nothing of x" + x, solver.judgeTree(), 0);
        }
        solver.factor(0, 1);
        solver.factor(9, -1);
        solver.row(2, 0);
        solver.solve(20_000);
        int[] parts = {1, 11, 10};
        for (int k = 0; k < parts.length; k++) {
            solver.setMultiplier(0, 0, parts[k], k == 0 ? -7 : 7, 3);
            CHECK.due("x0 and x9 go away with " + (k + 1), solver.judgeTree(), k == 2 ? 0 : 1);
        }
    }

    /** 0 = 1 twice: the conflict has - 1 for the first. */
    private static void togetherBelowZero() {
        int[][] cases = {{1, 1, 1}, {MOST - 1, MOST, 0}, {MOST, MOST - 1, 1}, {0, 1, 0}, {-1, 1, 0}, {2, 1, 1},
            {-MOST, 1, 0}, {MOST, 1, 1}, {MOST, MOST, 1}, {-MOST, MOST, 0}};
        for (int[] one : cases) {
            RowSolver solver = solved("-", "0 = 1", "0 = 1");
            CHECK.due("GOOD", solver.judgeTree(), 0);
            solver.setMultiplier(0, 0, 1, one[0], one[1]);
            CHECK.due("- 1 and " + one[0] + " / " + one[1], solver.judgeTree(), one[2]);
        }
        RowSolver solver = solved("-", "0 = 1", "0 = 1000000");
        solver.setMultiplier(0, 0, 1, 1, 1_000_000);
        CHECK.due("- 1 and 1,000,000 / 1,000,000", solver.judgeTree(), 1);
        solver.setMultiplier(0, 0, 0, -999_999_999, 999_999_998);
        CHECK.due("a little below 0", solver.judgeTree(), 0);
        solver.setMultiplier(0, 0, 0, -999_999_998, 999_999_999);
        CHECK.due("a little above 0", solver.judgeTree(), 1);
    }

    private static void splitsWithBothSides() {
        RowSolver solver = Problems.told("W", "2 = 1");
        solver.solve(2);
        solver.setMultiplier(1, 0, 0, -1, 2);
        solver.setMultiplier(1, 1, 0, 1, 1);
        CHECK.due("its first leaf is GOOD, but its second side is to come", solver.judgeTree(), 1);
        solver.solve(1);
        CHECK.due("the split is GOOD, its second leaf is not", solver.judgeTree(), 3);
        solver.solve(1);
        CHECK.due("GOOD", solver.judgeTree(), 0);
    }
}
