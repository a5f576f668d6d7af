/** Promises 1 to 5: a new object, and the telling of variables and rows. */
final class TellingTest {
    private static final Check CHECK = new Check("TellingTest");

    public static void main(String[] args) {
        newObject();
        variables();
        variablesForgets();
        factor();
        row();
        rowBadChangesNothing();
        whole();
        CHECK.end();
    }

    private static void newObject() {
        RowSolver solver = new RowSolver();
        CHECK.due("BAD", RowSolver.BAD, -1);
        CHECK.due("NONE", RowSolver.NONE, -2);
        CHECK.states("new", solver, 0, 0, 0, 0, 0, 0, 0, 0, 0);
        CHECK.due("new factor", solver.factor(0, 1), Check.BAD);
        CHECK.due("new row", solver.row(0, 1), Check.BAD);
        CHECK.due("new whole", solver.whole(0, true), Check.BAD);
        CHECK.due("new solve", solver.solve(1), Check.BAD);
        CHECK.due("new basic", solver.basic(0), Check.BAD);
        CHECK.due("new value", solver.value(0), Check.NO_NUMBER);
        CHECK.due("new told", solver.told(0, 0), Check.NO_NUMBER);
        CHECK.due("new digits", solver.digits(0, 0), Check.BAD);
        CHECK.due("new witness", solver.witness(), Check.BAD);
        CHECK.due("new setWitness", solver.setWitness(0, 1, 1), Check.BAD);
        CHECK.due("new judgeWitness", solver.judgeWitness(), Check.BAD);
        CHECK.due("new node", solver.node(0, 0), Check.NO_NODE);
        CHECK.due("new multiplier", solver.multiplier(0, 0, 0), Check.NO_NUMBER);
        CHECK.due("new setMultiplier", solver.setMultiplier(0, 0, 0, 1, 1), Check.BAD);
        CHECK.due("new setSplit", solver.setSplit(0, 0), Check.BAD);
        CHECK.due("new judgeTree", solver.judgeTree(), Check.BAD);
        solver.variables(10);
        for (int x = 0; x < 10; x++) {
            solver.factor(x, 1);
            solver.row(2, 0);
            CHECK.due("a witness of 0s, to x" + x, solver.judgeWitness(), 0);
            solver.whole(x, true);
        }
        solver.row(1, 1);
        CHECK.due("a witness of 0s and 0 at least 1", solver.judgeWitness(), 11);
    }

    private static void variables() {
        RowSolver solver = Problems.half();
        solver.solve(1);
        int[] wrong = {0, 11, -1, Integer.MAX_VALUE, Integer.MIN_VALUE};
        for (int n : wrong) {
            CHECK.due("variables(" + n + ")", solver.variables(n), Check.BAD);
        }
        CHECK.states("after wrong variables", solver, 1, 1, 1, 0, 0, 0, 1, 1, 1);
        for (int n = 1; n <= 10; n++) {
            CHECK.due("variables(" + n + ")", solver.variables(n), n);
            CHECK.states("variables(" + n + ")", solver, 0, 0, 0, 0, 0, 0, 0, n, 0);
            CHECK.due("the last one", solver.factor(n - 1, 1), 0);
            CHECK.due("behind the last one", solver.factor(n, 1), Check.BAD);
        }
    }

    private static void variablesForgets() {
        RowSolver solver = Problems.half();
        solver.solve(20);
        solver.factor(0, 5);
        CHECK.due("variables again", solver.variables(1), 1);
        CHECK.due("no tree", solver.judgeTree(), Check.BAD);
        CHECK.due("none whole", solver.whole(0, false), 0);
        CHECK.due("no rows", solver.row(1, 1), 0);
        CHECK.due("0s at first: 0 at least 1", solver.solve(9), 1);
        CHECK.due("which can't be", solver.state(0), 3);
    }

    private static void factor() {
        RowSolver solver = new RowSolver();
        solver.variables(2);
        int[] wrong = {-1, 2, 10, Integer.MAX_VALUE, Integer.MIN_VALUE};
        for (int x : wrong) {
            CHECK.due("factor(" + x + ", 1)", solver.factor(x, 1), Check.BAD);
        }
        int[] wide = {1_000_001, -1_000_001, Integer.MAX_VALUE, Integer.MIN_VALUE};
        CHECK.due("factor", solver.factor(0, 3), 0);
        for (int a : wide) {
            CHECK.due("factor(0, " + a + ")", solver.factor(0, a), Check.BAD);
        }
        solver.row(2, 3);
        CHECK.due("upper edge", solver.factor(1, 1_000_000), 0);
        CHECK.due("lower edge", solver.factor(0, -1_000_000), 0);
        CHECK.due("told again", solver.factor(0, -500_000), 0);
        solver.row(2, 500_000);
        CHECK.due("solve", solver.solve(9), 3);
        CHECK.hand("x0", solver, solver.value(0), Check.ratio(1, 1));
        CHECK.hand("x1", solver, solver.value(1), Check.ratio(1, 1));
        CHECK.due("factor while it is solved", solver.factor(1, 7), 0);
        CHECK.states("stays", solver, 2, 3, 2, 0, 0, 0, 2, 2, 1);
        solver.row(1, 0);
        for (int i = 3; i < 12; i++) {
            solver.row(1, 0);
        }
        CHECK.due("factor behind twelve rows", solver.factor(1, 7), 0);
    }

    private static void row() {
        RowSolver solver = new RowSolver();
        solver.variables(1);
        CHECK.due("lowest", solver.row(0, -1_000_000), 0);
        CHECK.due("highest", solver.row(1, 1_000_000), 1);
        solver.solve(1);
        CHECK.due("equal", solver.row(2, 0), 2);
        CHECK.states("nothing is begun", solver, 0, 0, 0, 0, 0, 0, 3, 1, 0);
        CHECK.due("no tree", solver.judgeTree(), Check.BAD);
        for (int i = 3; i < 12; i++) {
            CHECK.due("row " + i, solver.row(0, i), i);
        }
        solver.solve(1);
        CHECK.due("thirteenth", solver.row(0, 0), Check.BAD);
        CHECK.states("it goes on", solver, 3, 1, 0, 1, 0, 0, 12, 1, 1);
    }

    private static void rowBadChangesNothing() {
        RowSolver solver = new RowSolver();
        solver.variables(1);
        solver.solve(1);
        solver.factor(0, 4);
        int[] kinds = {-1, 3, Integer.MAX_VALUE, Integer.MIN_VALUE};
        for (int kind : kinds) {
            CHECK.due("row(" + kind + ", 0)", solver.row(kind, 0), Check.BAD);
        }
        int[] numbers = {-1_000_001, 1_000_001, Integer.MAX_VALUE, Integer.MIN_VALUE};
        for (int b : numbers) {
            CHECK.due("row(0, " + b + ")", solver.row(0, b), Check.BAD);
        }
        CHECK.states("nothing changed", solver, 2, 1, 0, 0, 0, 0, 0, 1, 1);
        CHECK.due("row", solver.row(2, 2), 0);
        CHECK.due("next row has 0s", solver.row(1, 0), 1);
        CHECK.due("solve", solver.solve(9), 2);
        CHECK.hand("x0 by 4 x0 = 2", solver, solver.value(0), Check.ratio(1, 2));
        CHECK.hand("s1", solver, solver.value(2), Check.ratio(0, 1));
    }

    private static void whole() {
        RowSolver solver = Problems.open();
        CHECK.due("was not", solver.whole(1, true), 0);
        CHECK.due("was", solver.whole(1, true), 1);
        CHECK.due("was", solver.whole(1, false), 1);
        CHECK.due("was not", solver.whole(1, false), 0);
        solver.solve(20);
        int[] wrong = {-1, 2, 10, Integer.MAX_VALUE, Integer.MIN_VALUE};
        for (int x : wrong) {
            CHECK.due("whole(" + x + ", true)", solver.whole(x, true), Check.BAD);
        }
        CHECK.due("it stays SAT", solver.state(0), 2);
        CHECK.due("same again", solver.whole(0, false), 0);
        CHECK.states("nothing is begun", solver, 0, 0, 0, 0, 0, 0, 3, 2, 0);
    }
}
