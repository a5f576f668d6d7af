/**
 * Terms, SOLVING: each sentence on what a step takes and what it leaves, one problem for each case. Places are told as in
 * Show.places: those that are basic have a star.
 */
final class StepsTest {
    private static final Check CHECK = new Check("StepsTest");

    public static void main(String[] args) {
        atFirst();
        placesInOrder();
        atABoundIsNotBeyondIt();
        theFirstThatIsBeyond();
        belowWithoutABound();
        aboveWithoutABound();
        onlyTheOtherBoundIsThere();
        theBoundIsThereButFarther();
        passedOverAtItsBound();
        passedOverWithoutAFactor();
        theFirstOfSeveral();
        allOthersStay();
        conflictWithoutASplit();
        conflictOnAllSecondSides();
        backToTheLastWithASecondSide();
        backMovesWhatIsNotBasic();
        backLeavesWhatIsBasic();
        backUndoesBounds();
        theFirstThatIsNotWhole();
        theGreatestWholeNumberBelow();
        wholeValuesAreNotSplit();
        splitsOfOneVariable();
        conflictsComeBeforeSplits();
        CHECK.end();
    }

    /** So many steps of a problem lead to the places before, one more to those after. */
    private static void story(String what, RowSolver solver, int steps, String before, String after) {
        if (steps > 0) {
            CHECK.due(what + ": steps before", solver.solve(steps), steps);
            CHECK.due(what + ": before", Show.places(solver), before);
        }
        CHECK.due(what + ": the step", solver.solve(1), 1);
        CHECK.due(what + ": after", Show.places(solver), after);
    }

    private static void atFirst() {
        RowSolver solver = Problems.told("-W", "3 -2 <= 0", "0 5 >= -1", "0 0 = 0");
        CHECK.due("one step", solver.solve(20_000), 1);
        CHECK.due("all s are basic, all x are 0", Show.places(solver), "x0=0 x1=0 s0*=0 s1*=0 s2*=0");
        int[][] factors = {{3, -2}, {0, 5}, {0, 0}};
        for (int i = 0; i < 3; i++) {
            for (int x = 0; x < 2; x++) {
                CHECK.hand("s" + i + " by x" + x, solver, solver.told(2 + i, x), Check.ratio(factors[i][x], 1));
            }
        }
    }

    private static void placesInOrder() {
        RowSolver solver = new RowSolver();
        solver.variables(10);
        for (int i = 0; i < 12; i++) {
            solver.factor(i % 10, 1);
            solver.row(2, i + 1);
        }
        solver.solve(10);
        for (int k = 0; k < 10; k++) {
            CHECK.due("x" + k, solver.basic(k), 1);
            CHECK.hand("x" + k, solver, solver.value(k), Check.ratio(k + 1, 1));
            CHECK.due("s" + k, solver.basic(10 + k), 0);
            CHECK.hand("s" + k, solver, solver.value(10 + k), Check.ratio(k + 1, 1));
        }
        CHECK.due("s11 is the last one", solver.basic(21), 1);
        CHECK.hand("s11 is x1", solver, solver.told(21, 11), Check.ratio(1, 1));
        CHECK.due("there is none behind it", solver.basic(22), Check.BAD);
    }

    private static void atABoundIsNotBeyondIt() {
        String[] signs = {"<=", ">=", "="};
        int[][] ends = {{3, 2, 2}, {2, 2, 3}, {3, 2, 3}};
        for (int kind = 0; kind < 3; kind++) {
            for (int b = -1; b <= 1; b++) {
                RowSolver solver = Problems.told("-", "0 " + signs[kind] + " " + b);
                CHECK.due("one step", solver.solve(20_000), 1);
                CHECK.due("0 " + signs[kind] + " " + b, solver.state(0), ends[kind][b + 1]);
            }
        }
        RowSolver at = Problems.told("-", "1 = 1", "1 <= 1", "1 >= 1", "1000000 <= 1000000");
        CHECK.due("an exchange, and all is at its bounds", at.solve(20_000), 2);
        CHECK.due("SAT", at.state(0), 2);
        String[] rows = {"1 >= 1", "-1 <= -1", "1 = 1"};
        for (String row : rows) {
            RowSolver beyond = Problems.told("-", "1000000 = 999999", row);
            CHECK.due("a millionth is beyond", beyond.solve(20_000), 2);
            CHECK.due(row, beyond.state(0), 3);
        }
    }

    private static void theFirstThatIsBeyond() {
        RowSolver rows = Problems.told("W", "0 <= -1", "0 = -1");
        story("s0 of s0 and s1, above", rows, 0, "", "x0=0 s0*=0 s1*=0");
        CHECK.due("s0's conflict", Show.leaf(rows, 0), "s0=1");
        rows = Problems.told("W", "0 = 1", "0 <= -1");
        story("s0 of s0 and s1, below", rows, 0, "", "x0=0 s0*=0 s1*=0");
        CHECK.due("s0's conflict", Show.leaf(rows, 0), "s0=-1");
        // x0 must be at least 1 and s0 at most 0: the variable comes first.
        story("x0 of x0 and s0, below", Problems.told("WW", "-1 0 <= 0", "2 2 = 1"), 7,
                "x0*=-1/2 x1=1 s0*=1/2 s1=1", "x0=1 x1*=-1/2 s0*=-1 s1=1");
        // x0 must be at most -1, s0 at least 1.
        RowSolver both = Problems.told("WW", "-3 -1 >= 1", "0 -3 <= 2", "1 -3 = 0");
        story("x0 of x0 and s0, above", both, 7, "x0*=0 x1=0 s0*=0 s1*=0 s2=0", "x0*=0 x1=0 s0*=0 s1*=0 s2=0");
        CHECK.due("x0's conflict", Show.leaf(both, 3), "s2=-1 u0=1 l1=-3");
        story("x0 of x0 and x1", Problems.told("WWW", "3 -2 -2 >= 4", "3 3 2 >= 1"), 11,
                "x0*=16/15 x1*=-7/5 x2=1 s0=4 s1=1", "x0=1 x1*=-1 x2*=1/2 s0=4 s1=1");
    }

    private static void belowWithoutABound() {
        story("a above 0, x", Problems.told("W", "1 = 1"), 0, "", "x0*=1 s0=1");
        story("a below 0, x", Problems.told("-", "-1 = 1"), 0, "", "x0*=-1 s0=1");
        story("a above 0, s", Problems.told("-", "2 >= 1", "1 >= 1"), 1, "x0*=1/2 s0=1 s1*=1/2", "x0*=1 s0*=2 s1=1");
        story("a below 0, s", Problems.told("W", "2 <= -1", "-1 = 1"), 1, "x0*=-1/2 s0=-1 s1*=1/2", "x0*=-1 s0*=-2 s1=1");
    }

    private static void aboveWithoutABound() {
        story("a above 0, x", Problems.told("W", "1 = -1"), 0, "", "x0*=-1 s0=-1");
        story("a below 0, x", Problems.told("-", "-1 <= -1"), 0, "", "x0*=1 s0=-1");
        story("a above 0, s", Problems.told("W", "2 <= -1"), 2, "x0*=-1/2 s0=-1", "x0=-1 s0*=-2");
        story("a below 0, s", Problems.told("W", "-2 >= 1"), 2, "x0*=-1/2 s0=1", "x0=-1 s0*=2");
    }

    /** A variable that is at its one bound can still go the other way. */
    private static void onlyTheOtherBoundIsThere() {
        story("above, a above 0", Problems.told("WW", "-2 2 >= 1"), 4, "x0=-1 x1*=-1/2 s0=1", "x0*=-3/2 x1=-1 s0=1");
        story("above, a below 0", Problems.told("WW", "2 2 = -1", "0 1 <= 0"), 5,
                "x0=0 x1*=-1/2 s0=-1 s1*=-1/2", "x0*=1/2 x1=-1 s0=-1 s1*=-1");
        story("below, a above 0", Problems.told("WW", "-2 2 = -1", "0 -1 <= 0"), 6,
                "x0=1 x1*=1/2 s0=-1 s1*=-1/2", "x0*=3/2 x1=1 s0=-1 s1*=-1");
        story("below, a below 0", Problems.told("WW", "2 2 >= 1"), 5, "x0=0 x1*=1/2 s0=1", "x0*=-1/2 x1=1 s0=1");
    }

    /** A variable has both bounds and is at the other one, or it rests where, before BACK, a bound was. */
    private static void theBoundIsThereButFarther() {
        // x0 rests at 1, its lower bound is 0; x1 = -3/2 x0 - 1/2 s0 must be at least 0.
        story("below, a below 0", Problems.told("WW", "-3 -2 = 1", "0 -1 >= 0", "2 -1 <= 3"), 10,
                "x0=1 x1*=-2 s0=1 s1*=2 s2*=4", "x0*=-1/3 x1=0 s0=1 s1*=0 s2*=-2/3");
        // x0 rests at -1, its upper bound is 0; x2 = 1/2 x0 - 1/2 s1 - 1/4 s2 must be at least 0.
        story("below, a above 0", Problems.told("W-W", "0 3 0 >= -3", "0 1 -2 = 1", "2 -2 0 = -1"), 10,
                "x0=-1 x1*=-1/2 x2*=-3/4 s0*=-3/2 s1=1 s2=-1", "x0*=1/2 x1*=1 x2=0 s0*=3 s1=1 s2=-1");
        // x1 rests at its upper bound 4 and has the lower bound 3; x2 = 2/3 x1 - 2/3 x0 + 1/3 s1 must be at most 4.
        story("above, a above 0", Problems.told("WWW", "-1 -2 0 <= -3", "2 -2 3 = 0", "-2 0 -1 >= 1"), 11,
                "x0=-3 x1=4 x2*=14/3 s0*=-5 s1=0 s2*=4/3", "x0=-3 x1*=3 x2=4 s0*=-3 s1=0 s2*=2");
        // x0 rests at its lower bound -3 and has the upper bound -2; x2 = 1/3 s1 - x0 must be at most 1.
        story("above, a below 0", Problems.told("WWW", "-1 3 0 <= -2", "3 0 3 = -4"), 12,
                "x0=-3 x1=-2 x2*=5/3 s0*=-3 s1=-4", "x0*=-7/3 x1=-2 x2=1 s0*=-11/3 s1=-4");
    }

    private static void passedOverAtItsBound() {
        story("above, a above 0, s", Problems.told("W-", "1 -1 = 0", "0 2 <= -1"), 3,
                "x0*=-1/2 x1*=-1/2 s0=0 s1=-1", "x0=-1 x1*=-1 s0=0 s1*=-2");
        story("above, a below 0, s", Problems.told("WW", "-2 -1 = 0", "0 2 >= 1"), 3,
                "x0*=-1/4 x1*=1/2 s0=0 s1=1", "x0=-1 x1*=2 s0=0 s1*=4");
        story("below, a above 0, s", Problems.told("WW", "2 -1 = 0", "0 1 >= 1"), 4,
                "x0*=1/2 x1*=1 s0=0 s1=1", "x0=1 x1*=2 s0=0 s1*=2");
        story("below, a below 0, s", Problems.told("WW", "1 -1 = 0", "0 -2 >= 1", "-1 0 >= 1"), 2,
                "x0*=-1/2 x1*=-1/2 s0=0 s1=1 s2*=1/2", "x0*=-1 x1*=-1 s0=0 s1*=2 s2=1");
        story("above, a above 0, x for s", Problems.told("WW", "0 2 = 0", "2 -1 >= 1"), 4,
                "x0=1 x1*=1 s0*=2 s1=1", "x0=1 x1*=0 s0=0 s1*=2");
        story("above, a above 0, x for x", Problems.told("WW", "2 -1 <= 1", "2 0 >= 1"), 4,
                "x0=1 x1=0 s0*=2 s1*=2", "x0=1 x1*=1 s0=1 s1*=2");
        story("above, a below 0, x for s", Problems.told("WW", "2 2 <= -1"), 4, "x0=-1 x1*=1/2 s0=-1", "x0=-1 x1=0 s0*=-2");
        story("above, a below 0, x for x", Problems.told("W-", "-2 0 >= 1", "-2 -1 = 1"), 3,
                "x0=-1 x1=0 s0*=2 s1*=2", "x0=-1 x1*=1 s0*=2 s1=1");
        story("below, a above 0, x for s", Problems.told("WW", "0 -2 >= 0", "2 1 <= -1"), 3,
                "x0=-1 x1*=1 s0*=-2 s1=-1", "x0=-1 x1*=0 s0=0 s1*=-2");
        story("below, a above 0, x for x", Problems.told("W-", "2 0 <= -1", "2 1 >= -1"), 3,
                "x0=-1 x1=0 s0*=-2 s1*=-2", "x0=-1 x1*=1 s0*=-2 s1=-1");
        story("below, a below 0, x for s", Problems.told("W-", "0 1 = 0", "-2 -1 <= -1"), 4,
                "x0=1 x1*=-1 s0*=-1 s1=-1", "x0=1 x1*=0 s0=0 s1*=-2");
        story("below, a below 0, x for x", Problems.told("WW", "-2 1 >= -1", "2 0 >= 1"), 4,
                "x0=1 x1=0 s0*=-2 s1*=2", "x0=1 x1*=1 s0=-1 s1*=2");
    }

    private static void passedOverWithoutAFactor() {
        story("x0 for x1", Problems.told("W-", "0 -1 <= -1"), 0, "", "x0=0 x1*=1 s0=-1");
        story("x0 for s0", Problems.told("WW", "0 2 <= -1"), 2, "x0=0 x1*=-1/2 s0=-1", "x0=0 x1=-1 s0*=-2");
        story("s0 for s1", Problems.told("WW", "-1 0 = 1", "0 -2 >= 1"), 3,
                "x0*=-1 x1*=-1/2 s0=1 s1=1", "x0*=-1 x1=-1 s0=1 s1*=2");
    }

    private static void theFirstOfSeveral() {
        story("x0 of x0 and x1", Problems.told("-W", "1 1 <= -1"), 0, "", "x0*=-1 x1=0 s0=-1");
        story("x1 of x1 and s0", Problems.told("WW", "-2 -1 >= 1"), 2, "x0*=-1/2 x1=0 s0=1", "x0=-1 x1*=1 s0=1");
        story("s0 of s0 and s1", Problems.told("W-", "0 1 <= -1", "2 -1 <= 0"), 3,
                "x0*=-1/2 x1*=-1 s0=-1 s1=0", "x0=-1 x1*=-2 s0*=-2 s1=0");
    }

    /** s1 leaves and becomes 6, x1 becomes basic, x0 and x2 stay, s0 and s2 follow. */
    private static void allOthersStay() {
        RowSolver solver = Problems.told("---", "1 2 3 <= 50", "0 3 1 >= 6", "-1 4 0 <= 9");
        story("an exchange", solver, 0, "", "x0=0 x1*=2 x2=0 s0*=4 s1=6 s2*=8");
        CHECK.hand("x1 by s1", solver, solver.told(1, 4), Check.ratio(1, 3));
        CHECK.hand("x1 by x2", solver, solver.told(1, 2), Check.ratio(-1, 3));
        CHECK.hand("x1 by x0", solver, solver.told(1, 0), Check.ratio(0, 1));
        CHECK.hand("s0 by x2", solver, solver.told(3, 2), Check.ratio(7, 3));
        CHECK.hand("s2 by s1", solver, solver.told(5, 4), Check.ratio(4, 3));
        CHECK.due("one exchange, and SAT", solver.solve(9), 1);
        CHECK.due("one exchange, and SAT", Show.states(solver), "2 2 1 0 0 0 3 3 1");
    }

    private static void conflictWithoutASplit() {
        RowSolver solver = Problems.told("-", "1 <= 0", "1 = 1");
        story("s0 is above 0", solver, 1, "x0*=1 s0*=1 s1=1", "x0*=1 s0*=1 s1=1");
        CHECK.due("UNSAT", Show.states(solver), "3 2 1 1 0 0 2 1 1");
        CHECK.due("its only leaf", Show.node(solver, 0), "1 none none none none none");
        CHECK.due("it ends", solver.solve(20_000), 0);
        CHECK.due("it ends", Show.states(solver), "3 2 1 1 0 0 2 1 1");
    }

    private static void conflictOnAllSecondSides() {
        RowSolver solver = Problems.told("WW", "-1 -1 >= 0", "0 -3 = -1");
        solver.solve(6);
        CHECK.due("two open", Show.states(solver), "1 6 3 1 2 2 2 2 4");
        solver.solve(1);
        CHECK.due("the outer one is on its second side", Show.states(solver), "1 7 3 2 2 1 2 2 5");
        solver.solve(1);
        CHECK.due("none is open any more", Show.states(solver), "3 8 3 3 2 0 2 2 5");
    }

    private static void backToTheLastWithASecondSide() {
        RowSolver solver = Problems.told("WW", "-1 -1 >= 0", "0 -3 = -1");
        solver.solve(5);
        CHECK.due("a split in the first side of another", Show.states(solver), "1 5 3 0 2 2 2 2 3");
        solver.solve(1);
        CHECK.due("back to the inner one", Show.node(solver, 3), "2 none none none none 1");
        CHECK.due("both are open", solver.state(5), 2);
        solver.solve(1);
        CHECK.due("back over the inner one to the outer one", Show.node(solver, 4), "2 none none none none 0");
        CHECK.due("one is open", solver.state(5), 1);
    }

    private static void backMovesWhatIsNotBasic() {
        story("x0 is below its bound 0", Problems.told("W", "-2 >= 1", "2 >= -1"), 3,
                "x0=-1 s0*=2 s1*=-2", "x0=0 s0*=0 s1*=0");
        story("x0 of the outer split", Problems.told("WW", "-1 -1 >= 0", "0 -3 = -1"), 6,
                "x0=-1 x1*=1/3 s0*=2/3 s1=-1", "x0=0 x1*=1/3 s0*=-1/3 s1=-1");
    }

    private static void backLeavesWhatIsBasic() {
        story("x0 is 1/2, its bound 1", Problems.told("W", "2 = 1"), 2, "x0*=1/2 s0=1", "x0*=1/2 s0=1");
        story("x0 of the outer split", Problems.told("WW", "-1 0 <= 0", "2 2 = 1"), 6,
                "x0*=-1/2 x1=1 s0*=1/2 s1=1", "x0*=-1/2 x1=1 s0*=1/2 s1=1");
    }

    /** x0 at most 0, and inside it x1 at most 0, then at least 1; where x0 is at least 1, x1 is free again. */
    private static void backUndoesBounds() {
        RowSolver solver = Problems.told("WW", "-1 0 <= 0", "2 2 = 1");
        solver.solve(7);
        CHECK.due("x1 rests at 1, where its bound was", Show.places(solver), "x0*=-1/2 x1=1 s0*=1/2 s1=1");
        CHECK.due("one split is open", solver.state(5), 1);
        solver.solve(1);
        CHECK.due("x1 goes below 1", Show.places(solver), "x0=1 x1*=-1/2 s0*=-1 s1=1");
        solver.solve(1);
        CHECK.due("and is split", Show.node(solver, 4), "0 1 -1 5 none 0");
        CHECK.due("nothing is beyond before that", solver.state(2), 4);
    }

    private static void theFirstThatIsNotWhole() {
        RowSolver two = Problems.told("WW", "-1 1 >= 0", "0 2 <= -1");
        two.solve(3);
        CHECK.due("x0 of x0 and x1", Show.places(two), "x0*=-1/2 x1*=-1/2 s0=0 s1=-1");
        CHECK.due("x0 of x0 and x1", Show.node(two, 0), "0 0 -1 1 none none");
        RowSolver notWhole = Problems.told("-W", "-1 1 = 0", "-1 -1 = 1");
        notWhole.solve(3);
        CHECK.due("x0 need not be whole", Show.places(notWhole), "x0*=-1/2 x1*=-1/2 s0=0 s1=1");
        CHECK.due("x0 need not be whole", Show.node(notWhole, 0), "0 1 -1 1 none none");
        RowSolver whole = Problems.told("WW", "1 0 >= 1", "0 2 = -1");
        whole.solve(3);
        CHECK.due("x0 is whole", Show.places(whole), "x0*=1 x1*=-1/2 s0=1 s1=-1");
        CHECK.due("x0 is whole", Show.node(whole, 0), "0 1 -1 1 none none");
    }

    private static void theGreatestWholeNumberBelow() {
        int[][] cases = {{2, 1, 0}, {2, -1, -1}, {3, 2, 0}, {3, -2, -1}, {3, -4, -2}, {3, 4, 1}, {2, 5, 2}, {2, -5, -3},
            {1000000, 999999, 0}, {1000000, -999999, -1}, {1000000, -1, -1}, {1000000, 1, 0}, {3, 1000000, 333333},
            {3, -1000000, -333334}};
        for (int[] one : cases) {
            String what = one[1] + " / " + one[0];
            RowSolver solver = Problems.told("W", one[0] + " = " + one[1]);
            solver.solve(2);
            CHECK.due(what, solver.node(0, 2), one[2]);
            solver.solve(20);
            CHECK.due(what + " is UNSAT", Show.states(solver), "3 4 1 2 1 0 1 1 3");
            CHECK.due(what + " is GOOD", solver.judgeTree(), 0);
        }
    }

    private static void wholeValuesAreNotSplit() {
        int[][] cases = {{1, 1}, {1, -1}, {2, 4}, {2, -4}, {-3, 6}, {7, 0}, {1000000, -1000000}};
        for (int[] one : cases) {
            String what = one[0] + " x0 = " + one[1];
            RowSolver solver = Problems.told("W", one[0] + " = " + one[1]);
            solver.solve(20);
            CHECK.due(what, solver.state(0), 2);
            CHECK.due(what + " splits", solver.state(4), 0);
            CHECK.hand(what, solver, solver.value(0), Check.ratio(one[1] / one[0], 1));
        }
    }

    private static void splitsOfOneVariable() {
        RowSolver lower = Problems.told("WW", "2 2 = -1", "0 1 <= 0");
        lower.solve(7);
        CHECK.due("x0 from 0, at most 0", Show.node(lower, 3), "0 0 0 4 none 2");
        CHECK.due("x0 from 0, at most 0", Show.states(lower), "1 7 3 1 3 3 2 2 5");
        RowSolver upper = Problems.told("WW", "-2 2 >= 1");
        upper.solve(6);
        CHECK.due("x0 to -1, now to -2", Show.node(upper, 2), "0 0 -2 3 none 1");
        CHECK.due("x0 to -1, now to -2", Show.states(upper), "1 6 3 0 3 3 1 2 4");
    }

    /** x0 is 1/2 and whole, but s1 is beyond its bound: that comes first. */
    private static void conflictsComeBeforeSplits() {
        RowSolver solver = Problems.told("W", "2 = 1", "1 >= 1");
        story("a conflict", solver, 1, "x0*=1/2 s0=1 s1*=1/2", "x0*=1/2 s0=1 s1*=1/2");
        CHECK.due("no split", Show.states(solver), "3 2 1 1 0 0 2 1 1");
        RowSolver sat = Problems.told("W", "2 >= 1", "1 >= 1");
        story("an exchange", sat, 1, "x0*=1/2 s0=1 s1*=1/2", "x0*=1 s0*=2 s1=1");
        CHECK.due("no split", sat.solve(9), 1);
        CHECK.due("no split", Show.states(sat), "2 3 2 0 0 0 2 1 1");
    }
}
