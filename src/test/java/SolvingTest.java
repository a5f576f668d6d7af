/** Promises 6 to 8: the steps one by one, what is counted, which places are basic, and where it ends. */
final class SolvingTest {
    private static final Check CHECK = new Check("SolvingTest");

    public static void main(String[] args) {
        solveFromOneToMost();
        solveRefused();
        solveWithoutVariables();
        solveBegins();
        solveUpToSoMany();
        solveInParts();
        solveWhenItHasEnded();
        stateOfEachNumber();
        stateRefused();
        basicOfEachPlace();
        basicRefused();
        basicAsItIsNow();
        withoutRows();
        halfStepByStep();
        wedgeStepByStep();
        zeroRow();
        lowestPlacesFirst();
        openSplits();
        satWithOpenSplits();
        splitsMade();
        lastSplitIsEnough();
        farSplits();
        fartherSplits();
        farBeyondALong();
        deepMakesNoSplit();
        startsAnew();
        CHECK.end();
    }

    private static void solveFromOneToMost() {
        RowSolver one = Problems.open();
        CHECK.due("solve(1)", one.solve(1), 1);
        RowSolver most = Problems.open();
        CHECK.due("solve(20000)", most.solve(20_000), 3);
    }

    private static void solveRefused() {
        int[] wrong = {0, -1, 20_001, Integer.MAX_VALUE, Integer.MIN_VALUE};
        for (int n : wrong) {
            RowSolver solver = Problems.open();
            CHECK.due("solve(" + n + ")", solver.solve(n), Check.BAD);
            CHECK.states("not begun by that", solver, 0, 0, 0, 0, 0, 0, 3, 2, 0);
            solver.solve(1);
            CHECK.due("solve(" + n + ") while it goes on", solver.solve(n), Check.BAD);
            CHECK.states("no step", solver, 1, 1, 1, 0, 0, 0, 3, 2, 1);
            solver.solve(20);
            CHECK.due("solve(" + n + ") when it has ended", solver.solve(n), Check.BAD);
            CHECK.states("no step", solver, 2, 3, 2, 0, 0, 0, 3, 2, 1);
        }
    }

    private static void solveWithoutVariables() {
        RowSolver solver = new RowSolver();
        CHECK.due("solve(1)", solver.solve(1), Check.BAD);
        CHECK.due("solve(20000)", solver.solve(20_000), Check.BAD);
        CHECK.states("not begun", solver, 0, 0, 0, 0, 0, 0, 0, 0, 0);
        solver.variables(1);
        CHECK.due("with one", solver.solve(1), 1);
    }

    private static void solveBegins() {
        RowSolver solver = Problems.half();
        CHECK.due("not begun", solver.state(0), 0);
        solver.solve(1);
        CHECK.due("it goes on", solver.state(0), 1);
        CHECK.due("with its first node", solver.state(8), 1);
    }

    private static void solveUpToSoMany() {
        int[] due = {1, 2, 3, 4, 4, 4};
        for (int n = 1; n <= due.length; n++) {
            RowSolver solver = Problems.half();
            CHECK.due("solve(" + n + ") of four steps", solver.solve(n), due[n - 1]);
            CHECK.due("steps", solver.state(1), due[n - 1]);
            CHECK.due("how it is", solver.state(0), n < 4 ? 1 : 3);
            CHECK.due("the rest", solver.solve(20_000), 4 - due[n - 1]);
        }
    }

    /** However the steps are parted, they are the same. */
    private static void solveInParts() {
        int[][] parts = {{1, 1, 1, 1, 1, 1, 1}, {3, 4}, {6, 1}, {2, 5}, {7}};
        for (int[] part : parts) {
            RowSolver solver = Problems.told("WW", "-3 -1 <= 3", "2 -2 <= -1", "-2 -4 = 1");
            for (int n : part) {
                CHECK.due("solve(" + n + ")", solver.solve(n), n);
            }
            CHECK.due("seven steps", Show.states(solver), "1 7 4 1 2 2 3 2 4");
            CHECK.due("and five", solver.solve(20_000), 5);
            CHECK.due("twelve steps", Show.states(solver), "3 12 5 4 3 0 3 2 7");
            CHECK.due("GOOD", solver.judgeTree(), 0);
        }
    }

    private static void solveWhenItHasEnded() {
        RowSolver[] ended = {Problems.open(), Problems.wedge(), Problems.far(1, 3)};
        for (int k = 0; k < ended.length; k++) {
            RowSolver solver = ended[k];
            solver.solve(20_000);
            CHECK.due("it has ended", solver.state(0), 2 + k);
            String states = Show.states(solver);
            String places = Show.places(solver);
            CHECK.due("solve(1)", solver.solve(1), 0);
            CHECK.due("solve(20000)", solver.solve(20_000), 0);
            CHECK.due("it stays", Show.states(solver), states);
            CHECK.due("it stays", Show.places(solver), places);
        }
    }

    private static void stateOfEachNumber() {
        RowSolver solver = Problems.told("WW", "-3 -1 <= 3", "2 -2 <= -1", "-2 -4 = 1");
        CHECK.states("not begun", solver, 0, 0, 0, 0, 0, 0, 3, 2, 0);
        String[] due = {"1 1 1 0 0 0 3 2 1", "1 2 1 0 1 1 3 2 2", "1 3 2 0 1 1 3 2 2", "1 4 3 0 1 1 3 2 2",
            "1 5 4 0 1 1 3 2 2", "1 6 4 0 2 2 3 2 3", "1 7 4 1 2 2 3 2 4", "1 8 5 1 2 2 3 2 4", "1 9 5 1 3 3 3 2 5",
            "1 10 5 2 3 3 3 2 6", "1 11 5 3 3 1 3 2 7", "3 12 5 4 3 0 3 2 7"};
        for (int step = 1; step <= due.length; step++) {
            solver.solve(1);
            CHECK.due("step " + step, Show.states(solver), due[step - 1]);
        }
        RowSolver sat = Problems.open();
        sat.solve(20);
        CHECK.due("SAT", sat.state(0), 2);
        RowSolver deep = Problems.far(1, 3);
        deep.solve(20);
        CHECK.due("DEEP", deep.state(0), 4);
    }

    private static void stateRefused() {
        int[] wrong = {-1, 9, 10, Integer.MAX_VALUE, Integer.MIN_VALUE};
        RowSolver[] all = {new RowSolver(), Problems.open(), Problems.half()};
        all[2].solve(20);
        for (RowSolver solver : all) {
            for (int what : wrong) {
                CHECK.due("state(" + what + ")", solver.state(what), Check.BAD);
            }
        }
    }

    private static void basicOfEachPlace() {
        RowSolver solver = Problems.open();
        solver.solve(20);
        basics("SAT", solver, 1, 1, 0, 1, 0);
    }

    private static void basicRefused() {
        RowSolver solver = Problems.open();
        for (int place = 0; place < 5; place++) {
            CHECK.due("not begun", solver.basic(place), Check.BAD);
        }
        solver.solve(1);
        int[] wrong = {-1, 5, 6, 22, Integer.MAX_VALUE, Integer.MIN_VALUE};
        for (int place : wrong) {
            CHECK.due("basic(" + place + ")", solver.basic(place), Check.BAD);
        }
        CHECK.due("the last one", solver.basic(4), 1);
        solver.whole(0, false);
        CHECK.due("begun no more", solver.basic(4), Check.BAD);
    }

    private static void basicAsItIsNow() {
        RowSolver solver = Problems.told("W", "-2 >= 1", "2 >= -1");
        solver.solve(1);
        basics("an exchange", solver, 1, 0, 1);
        solver.solve(1);
        basics("a split", solver, 1, 0, 1);
        solver.solve(1);
        basics("an exchange back", solver, 0, 1, 1);
        solver.solve(2);
        basics("UNSAT", solver, 0, 1, 1);
    }

    private static void withoutRows() {
        RowSolver solver = new RowSolver();
        solver.variables(3);
        solver.whole(2, true);
        CHECK.due("no rows", solver.solve(5), 1);
        CHECK.states("no rows", solver, 2, 1, 0, 0, 0, 0, 0, 3, 1);
        CHECK.due("x2 is not basic", solver.basic(2), 0);
        CHECK.due("no s0", solver.basic(3), Check.BAD);
    }

    private static void basics(String what, RowSolver solver, int... due) {
        for (int place = 0; place < due.length; place++) {
            CHECK.due(what + " basic(" + place + ")", solver.basic(place), due[place]);
        }
    }

    private static void halfStepByStep() {
        RowSolver solver = Problems.half();
        CHECK.due("exchange", solver.solve(1), 1);
        CHECK.states("exchange", solver, 1, 1, 1, 0, 0, 0, 1, 1, 1);
        basics("exchange", solver, 1, 0);
        CHECK.due("split", solver.solve(1), 1);
        CHECK.states("split", solver, 1, 2, 1, 0, 1, 1, 1, 1, 2);
        CHECK.due("conflict and back", solver.solve(1), 1);
        CHECK.states("conflict and back", solver, 1, 3, 1, 1, 1, 1, 1, 1, 3);
        CHECK.due("conflict", solver.solve(7), 1);
        CHECK.states("conflict", solver, 3, 4, 1, 2, 1, 0, 1, 1, 3);
        basics("at the end", solver, 1, 0);
        CHECK.due("no more", solver.solve(7), 0);
    }

    private static void wedgeStepByStep() {
        RowSolver solver = Problems.wedge();
        CHECK.due("two exchanges around a split", solver.solve(3), 3);
        CHECK.states("two exchanges", solver, 1, 3, 2, 0, 1, 1, 3, 2, 2);
        basics("x0 at its bound", solver, 0, 1, 0, 1, 1);
        CHECK.hand("x1", solver, solver.value(1), Check.ratio(-1, 1));
        CHECK.due("conflict and back", solver.solve(1), 1);
        CHECK.states("back", solver, 1, 4, 2, 1, 1, 1, 3, 2, 3);
        CHECK.hand("x0 moved", solver, solver.value(0), Check.ratio(1, 1));
        CHECK.hand("x1 followed", solver, solver.value(1), Check.ratio(1, 1));
        CHECK.hand("s0 stays", solver, solver.value(2), Check.ratio(1, 1));
        CHECK.hand("s1 followed", solver, solver.value(3), Check.ratio(1, 1));
        CHECK.hand("s2 followed", solver, solver.value(4), Check.ratio(1, 1));
        CHECK.due("conflict", solver.solve(100), 1);
        CHECK.states("unsat", solver, 3, 5, 2, 2, 1, 0, 3, 2, 3);
    }

    private static void zeroRow() {
        RowSolver solver = new RowSolver();
        solver.variables(1);
        solver.row(0, 0);
        solver.row(1, 0);
        solver.row(2, 0);
        CHECK.due("0 is within", solver.solve(9), 1);
        CHECK.due("0 is within", solver.state(0), 2);
        solver.row(0, -1);
        CHECK.due("0 at most -1", solver.solve(9), 1);
        CHECK.states("0 at most -1", solver, 3, 1, 0, 1, 0, 0, 4, 1, 1);
    }

    /** Both rows are broken, and either variable could mend them: the first ones are taken. */
    private static void lowestPlacesFirst() {
        RowSolver solver = new RowSolver();
        solver.variables(3);
        Problems.row(solver, 0, 5, 1, 1, 1);
        Problems.row(solver, 0, -4, 0, 2, -1);
        Problems.row(solver, 1, 6, 1, 0, 3);
        solver.solve(1);
        // s1 is above - 4: x1 with a = 2, turned below 0, has no lower bound.
        basics("x1 for s1", solver, 0, 1, 0, 1, 0, 1);
        CHECK.hand("x1", solver, solver.value(1), Check.ratio(-2, 1));
        solver.solve(1);
        // s2 = x0 + 3 x2 is below 6: x0.
        basics("x0 for s2", solver, 1, 1, 0, 1, 0, 0);
        CHECK.hand("x0", solver, solver.value(0), Check.ratio(6, 1));
        CHECK.due("SAT", solver.solve(9), 1);
        CHECK.states("SAT", solver, 2, 3, 2, 0, 0, 0, 3, 3, 1);
    }

    /** With 23 open one more split is made, with 24 none; they may be on their first sides, on either, on their second. */
    private static void openSplits() {
        String[][] problems = {{"2 -2 = -1"}, {"2 2 = 1"}, {"0 1 >= 0", "-2 2 = 1"}};
        String[][] due = {{"1 47 24 0 23 23 1 2 24", "1 48 24 0 24 24 1 2 25", "1 49 25 0 24 24 1 2 25", "4 50 25 0 24 24 1 2 25"},
            {"1 58 24 11 23 23 1 2 35", "1 59 24 11 24 24 1 2 36", "1 61 25 12 24 24 1 2 37", "4 62 25 12 24 24 1 2 37"},
            {"1 70 24 23 23 23 2 2 47", "1 71 24 23 24 24 2 2 48", "1 73 25 24 24 24 2 2 49", "4 74 25 24 24 24 2 2 49"}};
        for (int k = 0; k < problems.length; k++) {
            RowSolver solver = Problems.told("WW", problems[k]);
            solver.solve(Integer.parseInt(due[k][0].split(" ")[1]));
            CHECK.due("23 open", Show.states(solver), due[k][0]);
            solver.solve(1);
            CHECK.due("24 open", Show.states(solver), due[k][1]);
            solver.solve(k == 0 ? 1 : 2);
            CHECK.due("24 open, and it goes on", Show.states(solver), due[k][2]);
            CHECK.due("the last step", solver.solve(20_000), 1);
            CHECK.due("DEEP", Show.states(solver), due[k][3]);
        }
    }

    /** 24 splits are open, and a whole value needs no other one. */
    private static void satWithOpenSplits() {
        RowSolver solver = Problems.told("WW", "-2 -2 <= -7", "1 0 >= -8");
        solver.solve(20_000);
        CHECK.due("SAT with 24 open", Show.states(solver), "2 63 26 12 24 24 2 2 37");
        CHECK.due("its values", Show.places(solver), "x0*=-8 x1=12 s0*=-8 s1=-8");
        CHECK.due("found", solver.witness(), 0);
        CHECK.due("GOOD", solver.judgeWitness(), 0);
    }

    private static void splitsMade() {
        RowSolver solver = Problems.boxed(-17, new int[] {-6, 6, -10}, new int[] {12, 5, 9});
        solver.solve(456);
        CHECK.states("149 made", solver, 1, 456, 167, 140, 149, 17, 7, 3, 290);
        solver.solve(1);
        CHECK.states("150 made", solver, 1, 457, 167, 140, 150, 18, 7, 3, 291);
        solver.solve(1);
        CHECK.states("150 made, and it goes on", solver, 1, 458, 168, 140, 150, 18, 7, 3, 291);
        CHECK.due("the last step", solver.solve(20_000), 1);
        CHECK.states("DEEP", solver, 4, 459, 168, 140, 150, 18, 7, 3, 291);
        CHECK.due("the last leaf is open", solver.node(290, 0), 2);
        CHECK.due("there is none behind it", solver.node(291, 0), Check.NO_NODE);
    }

    private static void lastSplitIsEnough() {
        RowSolver last = Problems.boxed(5, new int[] {-2, -6, 4}, new int[] {10, 4, 3});
        for (int round = 0; round < 3; round++) {
            CHECK.due("150 are enough", last.solve(20_000), 502);
            CHECK.states("150 are enough", last, 3, 502, 201, 151, 150, 0, 7, 3, 301);
            CHECK.due("good", last.judgeTree(), 0);
            CHECK.due("the last node", last.node(300, 0), 1);
            CHECK.due("there is none behind it", last.node(301, 0), Check.NO_NODE);
            last.whole(0, true);
        }
    }

    /** f is 10^18, 10^18 + 1, - 10^18, - 10^18 - 1 and so on. */
    private static void farSplits() {
        int[][] cases = {{1, 1, 3}, {1, 3, 4}, {-1, 1, 3}, {-1, -1, 4}, {1, -1, 3}, {1, 1_000_000 - 1, 4}, {-1, 3, 3},
            {-1, -3, 4}};
        for (int[] one : cases) {
            String what = "far(" + one[0] + ", " + one[1] + ")";
            RowSolver solver = Problems.far(one[0], one[1]);
            solver.solve(20_000);
            CHECK.due(what + " end", solver.state(0), one[2]);
            CHECK.due(what + " splits", solver.state(4), one[2] == 3 ? 1 : 0);
            CHECK.due(what + " nodes", solver.state(8), one[2] == 3 ? 3 : 1);
            CHECK.due(what + " tree", solver.judgeTree(), one[2] == 3 ? 0 : 1);
            CHECK.due(what + " f is cut", solver.node(0, 2), one[2] == 3 ? one[0] * 2_000_000_000 : Check.NONE);
        }
    }

    private static void fartherSplits() {
        for (int end = 3; end <= 9; end++) {
            RowSolver solver = farther(end);
            solver.solve(20_000);
            CHECK.due("10^" + 6 * end + " + 1/2", solver.state(0), end == 3 ? 3 : 4);
            CHECK.due("10^" + 6 * end + " + 1/2 splits", solver.state(4), end == 3 ? 1 : 0);
        }
    }

    /** Times of 10^18 that, cut to 64 bits, would seem to be nearer: 18 * 10^18 is - 0.4 * 10^18 then, 19 * 10^18 0.6 * 10^18. */
    private static void farBeyondALong() {
        for (int times = -60; times <= 60; times++) {
            String factor = String.valueOf(-2 * times);
            RowSolver solver = Problems.told("---W", "1 0 0 0 = 1000000", "-1000000 1 0 0 = 0", "0 " + factor + " 1 0 = 0",
                    "0 0 -1000000 2 = 1");
            solver.solve(20_000);
            boolean isNear = times >= -1 && times <= 1;
            CHECK.due(times + " * 10^18 + 1/2", solver.state(0), isNear ? 3 : 4);
            CHECK.due(times + " * 10^18 + 1/2 splits", solver.state(4), isNear ? 1 : 0);
        }
    }

    /** The value is as it was, no bound is there, the leaf is open. */
    private static void deepMakesNoSplit() {
        RowSolver solver = Problems.far(-1, -1);
        solver.solve(4);
        CHECK.states("before", solver, 1, 4, 4, 0, 0, 0, 4, 4, 1);
        CHECK.due("DEEP", solver.solve(20_000), 1);
        CHECK.states("DEEP", solver, 4, 5, 4, 0, 0, 0, 4, 4, 1);
        CHECK.due("its leaf", Show.node(solver, 0), "2 none none none none none");
        CHECK.due("its value", Show.hand(solver, solver.value(3), 3), "-2000000000000000001/2");
    }

    /** Each variable is 10^6 times the one before it, the last one 1/2 more, and whole. */
    private static RowSolver farther(int end) {
        RowSolver solver = new RowSolver();
        solver.variables(end + 1);
        Problems.row(solver, 2, 1_000_000, 1);
        for (int x = 1; x <= end; x++) {
            solver.factor(x - 1, x < end ? -1_000_000 : -2);
            solver.factor(x, x < end ? 1 : 2);
            solver.row(2, x < end ? 0 : 1);
        }
        solver.whole(end, true);
        return solver;
    }

    private static void startsAnew() {
        RowSolver solver = Problems.half();
        solver.solve(20);
        solver.whole(0, false);
        CHECK.due("now it is no split", solver.solve(20), 2);
        CHECK.states("anew", solver, 2, 2, 1, 0, 0, 0, 1, 1, 1);
        CHECK.hand("x0", solver, solver.value(0), Check.ratio(1, 2));
        CHECK.due("no multipliers are left", solver.multiplier(0, 0, 0), 0);
    }
}
