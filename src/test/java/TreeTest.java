/** Promises 15 to 19: the tree, also when someone has changed it. */
final class TreeTest {
    private static final Check CHECK = new Check("TreeTest");

    private static final int MOST = 1_000_000_000;
    private static final int[] TOO_WIDE = {MOST + 1, -MOST - 1, Integer.MAX_VALUE, Integer.MIN_VALUE};

    public static void main(String[] args) {
        nodes();
        nodeOfNoTree();
        nodeOfNoNumber();
        nodeOfNothingElse();
        nodeTellsFCut();
        nodeTellsFAsItWasSet();
        nodeWithFLikeNone();
        multipliers();
        multiplierOfTheLastOnes();
        multiplierOfASplit();
        wrongMultipliers();
        multiplierNotBegun();
        setMultiplier();
        setMultiplierBounds();
        setMultiplierOfOneAlone();
        setMultiplierOfOpenAndClosed();
        wrongSetMultiplier();
        setSplit();
        setSplitBounds();
        setSplitRefused();
        setSplitOfOneAlone();
        setSplitOfAFarOne();
        solvingGoesOnByWhatItFound();
        judgeTree();
        judgeNoTree();
        judgeFirstOfAll();
        wrongBounds();
        judgeUnfinishedTree();
        conflictGivesWhatItNames();
        otherBoundStays();
        newLeavesHaveZeros();
        looserBoundsDoNotCount();
        CHECK.end();
    }

    private static void node(RowSolver solver, int k, int... due) {
        for (int what = 0; what < due.length; what++) {
            CHECK.due("node(" + k + ", " + what + ")", solver.node(k, what), due[what]);
        }
    }

    private static void nodes() {
        RowSolver solver = Problems.half();
        solver.solve(1);
        node(solver, 0, 2, Check.NONE, Check.NONE, Check.NONE, Check.NONE, Check.NONE);
        solver.solve(1);
        node(solver, 0, 0, 0, 0, 1, Check.NONE, Check.NONE);
        node(solver, 1, 2, Check.NONE, Check.NONE, Check.NONE, Check.NONE, 0);
        solver.solve(1);
        node(solver, 0, 0, 0, 0, 1, 2, Check.NONE);
        node(solver, 1, 1, Check.NONE, Check.NONE, Check.NONE, Check.NONE, 0);
        node(solver, 2, 2, Check.NONE, Check.NONE, Check.NONE, Check.NONE, 0);
        solver.solve(1);
        node(solver, 2, 1, Check.NONE, Check.NONE, Check.NONE, Check.NONE, 0);
    }

    private static void nodeOfNoTree() {
        RowSolver solver = Problems.half();
        CHECK.due("not begun", solver.node(0, 0), Check.NO_NODE);
        solver.solve(1);
        CHECK.due("begun", solver.node(0, 0), 2);
        solver.row(0, 0);
        CHECK.due("begun no more", solver.node(0, 0), Check.NO_NODE);
    }

    private static void nodeOfNoNumber() {
        RowSolver solver = Problems.half();
        solver.solve(1);
        CHECK.due("one node", solver.node(1, 0), Check.NO_NODE);
        solver.solve(20);
        CHECK.due("the last of three", solver.node(2, 0), 1);
        int[] wrong = {-1, 3, 300, 301, 302, Integer.MAX_VALUE, Integer.MIN_VALUE};
        for (int k : wrong) {
            for (int what = -1; what <= 6; what++) {
                CHECK.due("node(" + k + ", " + what + ")", solver.node(k, what), Check.NO_NODE);
            }
        }
    }

    private static void nodeOfNothingElse() {
        RowSolver solver = Problems.half();
        solver.solve(3);
        int[] whats = {-1, 6, Integer.MAX_VALUE, Integer.MIN_VALUE};
        for (int what : whats) {
            for (int k = 0; k < 3; k++) {
                CHECK.due("node(" + k + ", " + what + ")", solver.node(k, what), Check.NO_NODE);
            }
        }
    }

    /** x1 = (sign * 4 * 10^9 + b) / 2. */
    private static RowSolver wide(int sign, int b) {
        return Problems.told("-W", "1 0 = " + sign * 4000, "-1000000 2 = " + b);
    }

    private static void nodeTellsFCut() {
        int[][] cases = {{1, -3, 1_999_999_998}, {1, -1, 1_999_999_999}, {1, 1, 2_000_000_000}, {1, 3, 2_000_000_000},
            {1, 999_999, 2_000_000_000}, {-1, 5, -1_999_999_998}, {-1, 3, -1_999_999_999}, {-1, 1, -2_000_000_000},
            {-1, -1, -2_000_000_000}, {-1, -3, -2_000_000_000}};
        for (int[] one : cases) {
            RowSolver solver = wide(one[0], one[1]);
            solver.solve(20_000);
            String what = "(" + one[0] * 4 + " * 10^9 + " + one[1] + ") / 2";
            CHECK.due(what, solver.node(0, 2), one[2]);
            CHECK.due(what + " is UNSAT", solver.state(0), 3);
            CHECK.due(what + " is judged by f itself", solver.judgeTree(), 0);
        }
    }

    private static void nodeTellsFAsItWasSet() {
        RowSolver solver = wide(1, 999_999);
        solver.solve(20_000);
        int[] set = {MOST, -MOST, 0, -2, 7};
        for (int f : set) {
            CHECK.due("set", solver.setSplit(0, f), 0);
            CHECK.due("told", solver.node(0, 2), f);
        }
    }

    /** f can be - 2, which is NONE for what there is not: node's sort tells which it is. */
    private static void nodeWithFLikeNone() {
        RowSolver solver = Problems.told("W", "2 = -3");
        solver.solve(20);
        CHECK.due("a split", solver.node(0, 0), 0);
        CHECK.due("f", solver.node(0, 2), -2);
        CHECK.due("its first side", solver.node(0, 3), 1);
        CHECK.due("its second side", solver.node(0, 4), 2);
        CHECK.due("GOOD", solver.judgeTree(), 0);
    }

    private static void multipliers() {
        RowSolver solver = Problems.wedge();
        solver.solve(20);
        // s2 = 2 x0 - s0 is below 0 where x0 is at most 0; s1 = 2 x0 - s0 is above 0 where x0 is at least 1.
        int[][] due = {{1, 0, 0, -1}, {1, 0, 1, 0}, {1, 0, 2, -1}, {1, 1, 0, 2}, {1, 1, 1, 0}, {1, 2, 0, 0}, {1, 2, 1, 0},
            {2, 0, 0, 1}, {2, 0, 1, 1}, {2, 0, 2, 0}, {2, 1, 0, 0}, {2, 1, 1, 0}, {2, 2, 0, -2}, {2, 2, 1, 0}};
        for (int[] one : due) {
            String what = "multiplier(" + one[0] + ", " + one[1] + ", " + one[2] + ")";
            CHECK.hand(what, solver, solver.multiplier(one[0], one[1], one[2]), Check.ratio(one[3], 1));
        }
        RowSolver half = Problems.half();
        half.solve(20);
        CHECK.hand("row below x0's upper bound", half, half.multiplier(1, 0, 0), Check.ratio(-1, 2));
        CHECK.hand("x0's upper bound", half, half.multiplier(1, 1, 0), Check.ratio(1, 1));
        CHECK.hand("row above x0's lower bound", half, half.multiplier(2, 0, 0), Check.ratio(1, 2));
        CHECK.hand("x0's lower bound", half, half.multiplier(2, 2, 0), Check.ratio(-1, 1));
        CHECK.hand("no upper bound there", half, half.multiplier(2, 1, 0), Check.ratio(0, 1));
    }

    private static void multiplierOfTheLastOnes() {
        RowSolver solver = new RowSolver();
        solver.variables(10);
        solver.row(1, 1);
        for (int i = 1; i < 12; i++) {
            solver.row(2, 0);
        }
        solver.solve(1);
        CHECK.hand("row 0", solver, solver.multiplier(0, 0, 0), Check.ratio(-1, 1));
        CHECK.hand("row 11", solver, solver.multiplier(0, 0, 11), Check.ratio(0, 1));
        CHECK.hand("x9's upper bound", solver, solver.multiplier(0, 1, 9), Check.ratio(0, 1));
        CHECK.hand("x9's lower bound", solver, solver.multiplier(0, 2, 9), Check.ratio(0, 1));
        int[][] wrong = {{0, 12}, {0, 13}, {1, 10}, {1, 11}, {2, 10}, {2, 11}, {2, 12}, {3, 0}, {-1, 0}};
        for (int[] one : wrong) {
            CHECK.due("multiplier(0, " + one[0] + ", " + one[1] + ")", solver.multiplier(0, one[0], one[1]), Check.NO_NUMBER);
            CHECK.due("setMultiplier", solver.setMultiplier(0, one[0], one[1], 1, 1), Check.BAD);
        }
        int[][] last = {{0, 11, 1}, {1, 9, 2}, {2, 9, 3}};
        for (int[] one : last) {
            CHECK.due("setMultiplier(0, " + one[0] + ", " + one[1] + ", ..)",
                    solver.setMultiplier(0, one[0], one[1], one[2], 7), 0);
        }
        for (int[] one : last) {
            CHECK.hand("as it was set", solver, solver.multiplier(0, one[0], one[1]), Check.ratio(one[2], 7));
        }
        CHECK.hand("row 0", solver, solver.multiplier(0, 0, 0), Check.ratio(-1, 1));
    }

    private static void multiplierOfASplit() {
        RowSolver solver = Problems.half();
        solver.solve(1);
        CHECK.due("a leaf", solver.multiplier(0, 0, 0), 0);
        solver.solve(1);
        for (int sort = 0; sort < 3; sort++) {
            CHECK.due("a split now", solver.multiplier(0, sort, 0), Check.NO_NUMBER);
            CHECK.due("a split now", solver.setMultiplier(0, sort, 0, 1, 1), Check.BAD);
        }
        CHECK.hand("what was at hand stays", solver, 0, Check.ratio(0, 1));
    }

    private static void multiplierNotBegun() {
        RowSolver solver = Problems.half();
        CHECK.due("not begun", solver.multiplier(0, 0, 0), Check.NO_NUMBER);
        CHECK.due("not begun", solver.setMultiplier(0, 0, 0, 1, 1), Check.BAD);
        solver.solve(20);
        CHECK.due("UNSAT", solver.multiplier(1, 0, 0), -1);
        solver.whole(0, true);
        CHECK.due("begun no more", solver.multiplier(1, 0, 0), Check.NO_NUMBER);
        CHECK.due("begun no more", solver.setMultiplier(1, 0, 0, 1, 1), Check.BAD);
    }

    private static void wrongMultipliers() {
        RowSolver solver = Problems.wedge();
        CHECK.due("not begun", solver.multiplier(0, 0, 0), Check.NO_NUMBER);
        solver.solve(20);
        int[][] wrong = {{0, 0, 0}, {0, 1, 0}, {3, 0, 0}, {-1, 0, 0}, {1, -1, 0}, {1, 3, 0}, {1, 0, 3}, {1, 0, -1},
            {1, 1, 2}, {1, 2, 2}, {1, 1, -1}, {1, 2, Integer.MAX_VALUE}, {1, Integer.MIN_VALUE, 0}};
        for (int[] one : wrong) {
            String what = "(" + one[0] + ", " + one[1] + ", " + one[2] + ")";
            CHECK.due("multiplier" + what, solver.multiplier(one[0], one[1], one[2]), Check.NO_NUMBER);
            CHECK.due("setMultiplier" + what, solver.setMultiplier(one[0], one[1], one[2], 1, 1), Check.BAD);
        }
        CHECK.due("nothing came to hand", solver.digits(0, 0), Check.BAD);
        CHECK.due("and nothing was changed", solver.judgeTree(), 0);
    }

    private static void setMultiplier() {
        RowSolver solver = Problems.half();
        solver.solve(20);
        CHECK.due("set", solver.setMultiplier(1, 0, 0, -1_000_000_000, 999_999_999), 0);
        CHECK.due("edge", solver.multiplier(1, 0, 0), -1);
        CHECK.due("edge numerator", solver.digits(0, 0), 0);
        CHECK.due("edge numerator's next", solver.digits(0, 1), 1);
        CHECK.due("edge denominator", solver.digits(1, 0), 999_999_999);
        CHECK.due("not in lowest terms", solver.setMultiplier(1, 0, 0, -500_000_000, 1_000_000_000), 0);
        CHECK.hand("- 1/2", solver, solver.multiplier(1, 0, 0), Check.ratio(-1, 2));
        CHECK.due("as it was", solver.judgeTree(), 0);
        CHECK.due("twice the row", solver.setMultiplier(1, 0, 0, -1, 1), 0);
        CHECK.due("x0 does not go away", solver.judgeTree(), 2);
        CHECK.due("twice the bound", solver.setMultiplier(1, 1, 0, 2, 1), 0);
        CHECK.due("good again", solver.judgeTree(), 0);
        CHECK.due("a third of both", solver.setMultiplier(1, 0, 0, -1, 6), 0);
        CHECK.due("a third of both", solver.setMultiplier(1, 1, 0, 1, 3), 0);
        CHECK.due("good still", solver.judgeTree(), 0);
        CHECK.due("the node's sort stays", solver.node(1, 0), 1);
    }

    private static void setMultiplierBounds() {
        int[][] cases = {{MOST, 1}, {-MOST, 1}, {1, MOST}, {-1, MOST}, {MOST, MOST}, {-MOST, MOST}, {0, MOST}, {0, 1},
            {MOST, MOST - 1}, {MOST - 1, MOST}};
        for (int[] one : cases) {
            RowSolver solver = Problems.half();
            solver.solve(20);
            for (int sort = 0; sort < 3; sort++) {
                String what = one[0] + " / " + one[1];
                CHECK.due(what, solver.setMultiplier(1, sort, 0, one[0], one[1]), 0);
                int above = one[1] == MOST && Math.abs(one[0]) == MOST ? one[0] / MOST : one[0];
                int below = one[0] == 0 || Math.abs(one[0]) == one[1] ? 1 : one[1];
                String due = below == 1 ? "" + above : above + "/" + below;
                CHECK.due(what, Show.hand(solver, solver.multiplier(1, sort, 0), 2), due);
            }
        }
    }

    private static void setMultiplierOfOneAlone() {
        RowSolver solver = Problems.told("W-", "2 0 = 1", "0 1 = 0");
        solver.solve(20);
        CHECK.due("leaf 1", Show.leaf(solver, 1), "s0=-1/2 u0=1");
        CHECK.due("leaf 2", Show.leaf(solver, 2), "s0=1/2 l0=-1");
        String[] due = {"s0=-1/2 s1=3 u0=1", "s0=-1/2 s1=3 u0=1 u1=4", "s0=-1/2 s1=3 u0=1 u1=4 l1=5"};
        for (int sort = 0; sort < 3; sort++) {
            solver.setMultiplier(1, sort, 1, 3 + sort, 1);
            CHECK.due("leaf 1", Show.leaf(solver, 1), due[sort]);
            CHECK.due("leaf 2", Show.leaf(solver, 2), "s0=1/2 l0=-1");
        }
        solver.setMultiplier(2, 2, 0, 0, 5);
        CHECK.due("leaf 1", Show.leaf(solver, 1), due[2]);
        CHECK.due("leaf 2", Show.leaf(solver, 2), "s0=1/2");
    }

    private static void setMultiplierOfOpenAndClosed() {
        RowSolver solver = Problems.half();
        solver.solve(3);
        CHECK.due("closed", solver.node(1, 0), 1);
        CHECK.due("set", solver.setMultiplier(1, 2, 0, 8, 9), 0);
        CHECK.due("open", solver.node(2, 0), 2);
        CHECK.due("set", solver.setMultiplier(2, 1, 0, -8, 9), 0);
        CHECK.due("closed", Show.leaf(solver, 1), "s0=-1/2 u0=1 l0=8/9");
        CHECK.due("open", Show.leaf(solver, 2), "u0=-8/9");
        CHECK.due("closed still", solver.node(1, 0), 1);
        CHECK.due("open still", solver.node(2, 0), 2);
        CHECK.due("it goes on as before", solver.solve(20), 1);
        CHECK.states("UNSAT", solver, 3, 4, 1, 2, 1, 0, 1, 1, 3);
    }

    private static void wrongSetMultiplier() {
        RowSolver solver = Problems.half();
        CHECK.due("not begun", solver.setMultiplier(0, 0, 0, 1, 1), Check.BAD);
        solver.solve(20);
        int[][] wrong = {{1, 0}, {1, -1}, {1, 1_000_000_001}, {1_000_000_001, 1}, {-1_000_000_001, 1},
            {Integer.MIN_VALUE, 1}, {1, Integer.MIN_VALUE}, {1, Integer.MAX_VALUE}};
        for (int[] one : wrong) {
            String what = one[0] + " / " + one[1];
            CHECK.due("setMultiplier " + what, solver.setMultiplier(1, 0, 0, one[0], one[1]), Check.BAD);
        }
        CHECK.due("nothing was changed", solver.judgeTree(), 0);
    }

    private static void setSplit() {
        RowSolver solver = Problems.half();
        solver.solve(20);
        CHECK.due("set", solver.setSplit(0, 5), 0);
        CHECK.due("told", solver.node(0, 2), 5);
        CHECK.due("the first side is - 1/2 + 5", solver.judgeTree(), 2);
        CHECK.due("set", solver.setSplit(0, -3), 0);
        CHECK.due("told", solver.node(0, 2), -3);
        CHECK.due("the second side is 1/2 + 2", solver.judgeTree(), 3);
        CHECK.due("as it was", solver.setSplit(0, 0), 0);
        CHECK.due("good", solver.judgeTree(), 0);
        CHECK.due("all else stays", Show.node(solver, 0), "0 0 0 1 2 none");
    }

    private static void setSplitBounds() {
        RowSolver solver = Problems.half();
        solver.solve(20);
        CHECK.due("most", solver.setSplit(0, MOST), 0);
        CHECK.due("told", solver.node(0, 2), MOST);
        CHECK.due("the first side", solver.judgeTree(), 2);
        CHECK.due("least", solver.setSplit(0, -MOST), 0);
        CHECK.due("told", solver.node(0, 2), -MOST);
        CHECK.due("the second side", solver.judgeTree(), 3);
        for (int f : TOO_WIDE) {
            CHECK.due("setSplit(0, " + f + ")", solver.setSplit(0, f), Check.BAD);
            CHECK.due("told as it was", solver.node(0, 2), -MOST);
        }
    }

    private static void setSplitRefused() {
        RowSolver solver = Problems.half();
        CHECK.due("not begun", solver.setSplit(0, 0), Check.BAD);
        solver.solve(1);
        CHECK.due("an open leaf", solver.setSplit(0, 0), Check.BAD);
        CHECK.due("an open leaf", Show.node(solver, 0), "2 none none none none none");
        solver.solve(20);
        int[] nodes = {-1, 1, 2, 3, 301, Integer.MAX_VALUE, Integer.MIN_VALUE};
        for (int k : nodes) {
            CHECK.due("setSplit(" + k + ", 5)", solver.setSplit(k, 5), Check.BAD);
        }
        CHECK.due("a leaf", Show.node(solver, 1), "1 none none none none 0");
        CHECK.due("nothing was changed", solver.node(0, 2), 0);
        CHECK.due("nothing was changed", solver.judgeTree(), 0);
        solver.row(0, 0);
        CHECK.due("begun no more", solver.setSplit(0, 0), Check.BAD);
    }

    private static void setSplitOfOneAlone() {
        RowSolver solver = Problems.told("WW", "-3 -1 <= 3", "2 -2 <= -1", "-2 -4 = 1");
        solver.solve(20);
        int[] splits = {0, 1, 3};
        int[] found = {-1, -2, 0};
        for (int k = 0; k < splits.length; k++) {
            CHECK.due("set", solver.setSplit(splits[k], 40 + k), 0);
            for (int other = 0; other < splits.length; other++) {
                CHECK.due("node " + splits[other], solver.node(splits[other], 2), other == k ? 40 + k : found[other]);
            }
            solver.setSplit(splits[k], found[k]);
        }
        CHECK.due("GOOD", solver.judgeTree(), 0);
    }

    /** f is beyond what can be told and set: once it is another one, it can't be set back. */
    private static void setSplitOfAFarOne() {
        RowSolver solver = Problems.far(1, 1);
        solver.solve(20);
        CHECK.due("GOOD", solver.judgeTree(), 0);
        CHECK.due("told", solver.node(0, 2), 2_000_000_000);
        CHECK.due("what is told is too wide", solver.setSplit(0, 2_000_000_000), Check.BAD);
        CHECK.due("GOOD still", solver.judgeTree(), 0);
        CHECK.due("set", solver.setSplit(0, MOST), 0);
        CHECK.due("told", solver.node(0, 2), MOST);
        CHECK.due("the second side is not GOOD", solver.judgeTree(), 3);
    }

    private static void solvingGoesOnByWhatItFound() {
        RowSolver solver = Problems.wedge();
        solver.solve(2);
        CHECK.due("set", solver.setSplit(0, 7), 0);
        CHECK.due("two steps", solver.solve(2), 2);
        CHECK.hand("x0 is f + 1 as it was found", solver, solver.value(0), Check.ratio(1, 1));
        CHECK.due("the end", solver.solve(20), 1);
        CHECK.states("the end", solver, 3, 5, 2, 2, 1, 0, 3, 2, 3);
        CHECK.due("judged by what was set", solver.judgeTree(), 2);
        solver.setSplit(0, 0);
        CHECK.due("good", solver.judgeTree(), 0);
    }

    private static void judgeTree() {
        // leaf, sort, which one, above, below, answer: signs, bounds that are not there, sums
        int[][] breaks = {{1, 0, 1, -1, 1, 2}, {1, 0, 2, 1, 1, 2}, {1, 1, 0, -2, 1, 2}, {1, 1, 1, 1, 1, 2}, {1, 2, 0, -1, 1, 2},
            {2, 1, 0, 1, 1, 3}, {2, 2, 0, 2, 1, 3}, {2, 2, 1, -1, 1, 3}, {2, 0, 0, 0, 1, 3}, {2, 0, 0, 1, 1, 0}};
        for (int[] one : breaks) {
            RowSolver solver = Problems.wedge();
            CHECK.due("not begun", solver.judgeTree(), Check.BAD);
            solver.solve(20);
            CHECK.due("good", solver.judgeTree(), 0);
            CHECK.due("set", solver.setMultiplier(one[0], one[1], one[2], one[3], one[4]), 0);
            String what = "leaf " + one[0] + " sort " + one[1] + " " + one[2] + " is " + one[3] + " / " + one[4];
            CHECK.due(what, solver.judgeTree(), one[5]);
            solver.whole(1, true);
            CHECK.due("not begun again", solver.judgeTree(), Check.BAD);
        }
        RowSolver both = Problems.wedge();
        both.solve(20);
        both.setMultiplier(2, 0, 0, 9, 1);
        CHECK.due("the second leaf", both.judgeTree(), 3);
        both.setMultiplier(1, 0, 0, 9, 1);
        CHECK.due("the first one that is not good", both.judgeTree(), 2);
        wrongSigns();
    }

    private static void judgeNoTree() {
        RowSolver solver = new RowSolver();
        CHECK.due("new", solver.judgeTree(), Check.BAD);
        solver.variables(1);
        CHECK.due("variables", solver.judgeTree(), Check.BAD);
        solver.row(1, 1);
        CHECK.due("a row", solver.judgeTree(), Check.BAD);
        solver.solve(1);
        CHECK.due("UNSAT", solver.judgeTree(), 0);
        solver.variables(1);
        CHECK.due("begun no more", solver.judgeTree(), Check.BAD);
    }

    /** Each leaf alone, then together with all behind it; the last node of the largest tree too. */
    private static void judgeFirstOfAll() {
        int[] leaves = {2, 4, 5, 6};
        for (int k = 0; k < leaves.length; k++) {
            RowSolver solver = Problems.told("WW", "-3 -1 <= 3", "2 -2 <= -1", "-2 -4 = 1");
            solver.solve(20);
            for (int other = leaves.length - 1; other >= k; other--) {
                solver.setMultiplier(leaves[other], 0, 1, 1, 7);
                CHECK.due("leaf " + leaves[other] + " and those behind", solver.judgeTree(), 1 + leaves[other]);
                if (other > k && k % 2 == 0) {
                    solver.setMultiplier(leaves[other], 0, 1, leaves[other] == 6 ? 1 : 0, 1);
                    CHECK.due("as it was", solver.judgeTree(), 0);
                }
            }
        }
        RowSolver largest = Problems.boxed(5, new int[] {-2, -6, 4}, new int[] {10, 4, 3});
        largest.solve(20_000);
        CHECK.due("GOOD", largest.judgeTree(), 0);
        CHECK.due("its last node", largest.setMultiplier(300, 0, 1, 1, MOST), 0);
        CHECK.due("its last node", largest.judgeTree(), 301);
    }

    /** x0 at most 1 and at least 0: with turned signs it would be a conflict. */
    private static void wrongSigns() {
        RowSolver solver = new RowSolver();
        solver.variables(1);
        Problems.row(solver, 0, 1, 1);
        Problems.row(solver, 1, 0, 1);
        CHECK.due("SAT", solver.solve(9), 1);
        CHECK.due("an open leaf sums up to 0", solver.judgeTree(), 1);
        solver.setMultiplier(0, 0, 0, -1, 1);
        solver.setMultiplier(0, 0, 1, 1, 1);
        CHECK.due("below 0, but by wrong signs", solver.judgeTree(), 1);
        solver.setMultiplier(0, 0, 0, 1, 1);
        solver.setMultiplier(0, 0, 1, -1, 1);
        CHECK.due("right signs, but above 0", solver.judgeTree(), 1);
        for (int wrong = 0; wrong < 2; wrong++) {
            RowSolver one = new RowSolver();
            one.variables(1);
            Problems.row(one, wrong == 0 ? 0 : 2, 1, 1);
            Problems.row(one, wrong == 1 ? 1 : 2, 0, 1);
            one.solve(1);
            one.setMultiplier(0, 0, 0, -1, 1);
            one.setMultiplier(0, 0, 1, 1, 1);
            CHECK.due("one wrong sign, of row " + wrong, one.judgeTree(), 1);
        }
    }

    /** Each change keeps the sums: only the sign of a bound's multiplier is wrong, or the bound is not there. */
    private static void wrongBounds() {
        // b, f, leaf, its row's multiplier (halves), its upper bound's, its lower bound's, the answer
        int[][] cases = {{1, 5, 1, 1, -1, 0, 2}, {1, -5, 2, -1, 0, 1, 3}, {1, 0, 2, -1, 1, 0, 3}, {-1, -1, 1, 1, 0, -1, 2},
            {1, 0, 1, -1, 1, 0, 0}, {1, 0, 2, 1, 0, -1, 0}};
        for (int[] one : cases) {
            RowSolver solver = new RowSolver();
            solver.variables(1);
            Problems.row(solver, 2, one[0], 2);
            solver.whole(0, true);
            solver.solve(20);
            CHECK.due("good", solver.judgeTree(), 0);
            solver.setSplit(0, one[1]);
            solver.setMultiplier(one[2], 0, 0, one[3], 2);
            solver.setMultiplier(one[2], 1, 0, one[4], 1);
            solver.setMultiplier(one[2], 2, 0, one[5], 1);
            CHECK.due("leaf " + one[2] + " has " + one[4] + " and " + one[5], solver.judgeTree(), one[6]);
        }
    }

    private static void judgeUnfinishedTree() {
        RowSolver solver = Problems.half();
        solver.solve(1);
        CHECK.due("an open leaf", solver.judgeTree(), 1);
        solver.solve(1);
        CHECK.due("a split without its second side", solver.judgeTree(), 1);
        solver.solve(1);
        CHECK.due("an open second side", solver.judgeTree(), 3);
        CHECK.due("set by hand", solver.setMultiplier(2, 0, 0, 1, 2), 0);
        CHECK.due("set by hand", solver.setMultiplier(2, 2, 0, -1, 1), 0);
        CHECK.due("good already", solver.judgeTree(), 0);
        CHECK.due("but not closed", solver.node(2, 0), 2);
        solver.solve(1);
        CHECK.due("closed", solver.node(2, 0), 1);
        CHECK.due("good", solver.judgeTree(), 0);
    }

    /** x0 at most 0, x0 at least 1, 0 at most 0: s0 = s1 is above 0, and row 2 has no part in that. */
    private static RowSolver apart() {
        RowSolver solver = new RowSolver();
        solver.variables(2);
        Problems.row(solver, 0, 0, 1, 0);
        Problems.row(solver, 1, 1, 1, 0);
        Problems.row(solver, 0, 0, 0, 0);
        CHECK.due("an exchange", solver.solve(1), 1);
        CHECK.due("that leaves the leaf open", solver.node(0, 0), 2);
        return solver;
    }

    private static void conflictGivesWhatItNames() {
        RowSolver solver = apart();
        CHECK.due("named", solver.setMultiplier(0, 0, 0, 7, 3), 0);
        CHECK.due("named", solver.setMultiplier(0, 0, 1, 7, 3), 0);
        CHECK.due("not named", solver.setMultiplier(0, 0, 2, 4, 6), 0);
        CHECK.hand("while it is open", solver, solver.multiplier(0, 0, 2), Check.ratio(2, 3));
        CHECK.due("the conflict", solver.solve(20), 1);
        CHECK.due("closed", solver.node(0, 0), 1);
        CHECK.hand("given by the conflict", solver, solver.multiplier(0, 0, 0), Check.ratio(1, 1));
        CHECK.hand("given by the conflict", solver, solver.multiplier(0, 0, 1), Check.ratio(-1, 1));
        CHECK.hand("as it was set", solver, solver.multiplier(0, 0, 2), Check.ratio(2, 3));
        CHECK.due("0 at most 0 does no harm", solver.judgeTree(), 0);
        int[] sorts = {1, 2};
        for (int sort : sorts) {
            RowSolver bound = apart();
            CHECK.due("a bound", bound.setMultiplier(0, sort, 1, 3 - 2 * sort, 1), 0);
            bound.solve(20);
            CHECK.hand("as it was set", bound, bound.multiplier(0, sort, 1), Check.ratio(3 - 2 * sort, 1));
            CHECK.due("x1 has no bound", bound.judgeTree(), 1);
            CHECK.due("as if never set", bound.setMultiplier(0, sort, 1, 0, 1), 0);
            CHECK.due("good", bound.judgeTree(), 0);
        }
    }

    /** A variable's two bounds have a multiplier each: the conflict names the one, the other stays. */
    private static void otherBoundStays() {
        RowSolver solver = Problems.half();
        solver.solve(2);
        CHECK.due("set", solver.setMultiplier(1, 2, 0, -5, 1), 0);
        solver.solve(1);
        CHECK.hand("its upper bound's by the conflict", solver, solver.multiplier(1, 1, 0), Check.ratio(1, 1));
        CHECK.hand("its lower bound's as it was set", solver, solver.multiplier(1, 2, 0), Check.ratio(-5, 1));
        CHECK.due("which is not there", solver.judgeTree(), 2);
        CHECK.hand("the second side's are 0", solver, solver.multiplier(2, 2, 0), Check.ratio(0, 1));
        CHECK.due("set", solver.setMultiplier(2, 1, 0, 5, 1), 0);
        solver.solve(1);
        CHECK.hand("its lower bound's by the conflict", solver, solver.multiplier(2, 2, 0), Check.ratio(-1, 1));
        CHECK.hand("its upper bound's as it was set", solver, solver.multiplier(2, 1, 0), Check.ratio(5, 1));
        CHECK.due("the first one", solver.judgeTree(), 2);
        solver.setMultiplier(1, 2, 0, 0, 1);
        CHECK.due("the second one", solver.judgeTree(), 3);
        solver.setMultiplier(2, 1, 0, 0, 1);
        CHECK.due("good", solver.judgeTree(), 0);
    }

    /** What was set of a leaf goes with it: a leaf that comes to be has 0s. */
    private static void newLeavesHaveZeros() {
        RowSolver solver = Problems.half();
        for (int round = 0; round < 2; round++) {
            solver.solve(1);
            CHECK.hand("the first leaf", solver, solver.multiplier(0, 2, 0), Check.ratio(0, 1));
            for (int sort = 0; sort < 3; sort++) {
                CHECK.due("set", solver.setMultiplier(0, sort, 0, 9, 1), 0);
            }
            solver.solve(1);
            CHECK.due("a split has none", solver.multiplier(0, 0, 0), Check.NO_NUMBER);
            for (int sort = 0; sort < 3; sort++) {
                CHECK.hand("the first side", solver, solver.multiplier(1, sort, 0), Check.ratio(0, 1));
                CHECK.due("set", solver.setMultiplier(1, sort, 0, 9, 1), 0);
            }
            solver.solve(1);
            for (int sort = 0; sort < 3; sort++) {
                CHECK.hand("the second side", solver, solver.multiplier(2, sort, 0), Check.ratio(0, 1));
                CHECK.due("set", solver.setMultiplier(2, sort, 0, 9, 1), 0);
            }
            solver.whole(0, true);
        }
        solver.solve(20);
        CHECK.due("good", solver.judgeTree(), 0);
    }

    /** 2 x0 + 2 x1 = 1 with x0, x1 from -2 to 2: splits of x0 inside others of x0. */
    private static void looserBoundsDoNotCount() {
        RowSolver solver = new RowSolver();
        solver.variables(2);
        Problems.row(solver, 2, 1, 2, 2);
        for (int x = 0; x < 2; x++) {
            solver.factor(x, 1);
            solver.row(1, -2);
            solver.factor(x, 1);
            solver.row(0, 2);
            solver.whole(x, true);
        }
        solver.solve(20_000);
        CHECK.states("UNSAT", solver, 3, 26, 9, 9, 8, 0, 5, 2, 17);
        CHECK.due("good", solver.judgeTree(), 0);
        // Leaf 7 is below x0 <= 0 (node 0), x0 <= -1 (node 3), x0 <= -2 (node 6), and leaf 15 below x0 >= 1 (node 0)
        // and x0 >= 2 (node 11); leaf 16 below x0 >= 1 alone.
        CHECK.due("node 0 says x0 <= -5 or x0 >= -4", solver.setSplit(0, -5), 0);
        CHECK.due("leaf 15 still has x0 >= 2, leaf 16 does not", solver.judgeTree(), 17);
        CHECK.due("node 6 says x0 <= 9 or x0 >= 10", solver.setSplit(6, 9), 0);
        CHECK.due("leaf 7 still has x0 <= -5", solver.judgeTree(), 17);
        CHECK.due("node 0 as it was", solver.setSplit(0, 0), 0);
        CHECK.due("leaf 7 now has x0 <= -1", solver.judgeTree(), 8);
    }
}
