/** Promises 1 to 5: a new object, and the telling of variables and rows; a test for each sentence. */
final class TellingTest {
    private static final Check CHECK = new Check("TellingTest");
    private static final int MOST = 1_000_000;
    private static final int[] NO_PLACES = {-1, Integer.MAX_VALUE, Integer.MIN_VALUE};
    private static final int[] TOO_WIDE = {MOST + 1, -MOST - 1, Integer.MAX_VALUE, Integer.MIN_VALUE};

    public static void main(String[] args) {
        constants();
        newHasNoVariables();
        newHasNoRows();
        newHasAWitnessOfZeros();
        newHasNoTree();
        variablesFromOneToTen();
        variablesRefused();
        variablesNoneWhole();
        variablesNoRows();
        variablesForgetTheRowBeingTold();
        variablesNothingBegun();
        factorOfEachVariable();
        factorBounds();
        factorZeroAtFirst();
        factorToldAgain();
        factorOfTheRowBeingToldAlone();
        factorRefused();
        factorKeepsWhatIsBegun();
        factorBehindTwelveRows();
        rowTellsWhichOne();
        rowKinds();
        rowBounds();
        rowNextHasZeros();
        rowNothingBegun();
        rowRefused();
        rowWithoutVariables();
        rowBehindTwelve();
        wholeTellsWhetherItWas();
        wholeOfEachVariable();
        wholeNothingBegun();
        wholeRefused();
        CHECK.end();
    }

    /** A problem that goes on, is SAT, UNSAT or DEEP, as the stage says. */
    private static RowSolver at(int stage) {
        RowSolver solver = stage == 2 ? Problems.open() : stage == 4 ? Problems.far(1, 3) : Problems.wedge();
        solver.solve(stage == 1 ? 3 : 20_000);
        CHECK.due("stage", solver.state(0), stage);
        return solver;
    }

    private static void nothingIsBegun(String what, RowSolver solver, int rows, int variables) {
        CHECK.states(what + ": nothing is begun", solver, 0, 0, 0, 0, 0, 0, rows, variables, 0);
        CHECK.due(what + ": no tree", solver.judgeTree(), Check.BAD);
        CHECK.due(what + ": no node", solver.node(0, 0), Check.NO_NODE);
        CHECK.due(what + ": no place", solver.basic(0), Check.BAD);
        CHECK.due(what + ": no value", solver.value(0), Check.NO_NUMBER);
        CHECK.due(what + ": no witness to be had", solver.witness(), Check.BAD);
    }

    private static void constants() {
        CHECK.due("BAD", RowSolver.BAD, -1);
        CHECK.due("NONE", RowSolver.NONE, -2);
    }

    private static void newHasNoVariables() {
        RowSolver solver = new RowSolver();
        CHECK.due("variables", solver.state(7), 0);
        CHECK.due("factor", solver.factor(0, 1), Check.BAD);
        CHECK.due("whole", solver.whole(0, true), Check.BAD);
        CHECK.due("solve", solver.solve(1), Check.BAD);
        CHECK.due("setWitness", solver.setWitness(0, 1, 1), Check.BAD);
        CHECK.due("judgeWitness", solver.judgeWitness(), Check.BAD);
        CHECK.due("basic", solver.basic(0), Check.BAD);
        CHECK.due("value", solver.value(0), Check.NO_NUMBER);
        CHECK.due("told", solver.told(0, 0), Check.NO_NUMBER);
        CHECK.due("digits", solver.digits(0, 0), Check.BAD);
        CHECK.due("witness", solver.witness(), Check.BAD);
        CHECK.states("new", solver, 0, 0, 0, 0, 0, 0, 0, 0, 0);
    }

    private static void newHasNoRows() {
        RowSolver solver = new RowSolver();
        CHECK.due("rows", solver.state(6), 0);
        CHECK.due("row", solver.row(0, 1), Check.BAD);
        CHECK.due("rows", solver.state(6), 0);
        solver.variables(1);
        CHECK.due("the first row", solver.row(0, 1), 0);
    }

    private static void newHasAWitnessOfZeros() {
        for (int x = 0; x < 10; x++) {
            RowSolver solver = new RowSolver();
            solver.variables(10);
            solver.factor(x, 1);
            solver.row(2, 0);
            solver.whole(x, true);
            CHECK.due("x" + x + " = 0", solver.judgeWitness(), 0);
            solver.factor(x, MOST);
            solver.row(1, 1);
            CHECK.due("x" + x + " is at least a millionth", solver.judgeWitness(), 2);
        }
    }

    private static void newHasNoTree() {
        RowSolver solver = new RowSolver();
        CHECK.due("nodes", solver.state(8), 0);
        CHECK.due("node", solver.node(0, 0), Check.NO_NODE);
        CHECK.due("multiplier", solver.multiplier(0, 0, 0), Check.NO_NUMBER);
        CHECK.due("setMultiplier", solver.setMultiplier(0, 0, 0, 1, 1), Check.BAD);
        CHECK.due("setSplit", solver.setSplit(0, 0), Check.BAD);
        CHECK.due("judgeTree", solver.judgeTree(), Check.BAD);
        solver.variables(1);
        CHECK.due("judgeTree with variables", solver.judgeTree(), Check.BAD);
    }

    private static void variablesFromOneToTen() {
        RowSolver solver = new RowSolver();
        int[] counts = {1, 10, 2, 9, 5, 10, 1};
        for (int n : counts) {
            CHECK.due("variables(" + n + ")", solver.variables(n), n);
            CHECK.due("variables", solver.state(7), n);
            CHECK.due("the last one", solver.factor(n - 1, 1), 0);
            CHECK.due("behind the last one", solver.factor(n, 1), Check.BAD);
        }
    }

    private static void variablesRefused() {
        int[] wrong = {0, 11, -1, 12, 22, Integer.MAX_VALUE, Integer.MIN_VALUE};
        for (int n : wrong) {
            RowSolver solver = Problems.half();
            solver.solve(1);
            CHECK.due("variables(" + n + ")", solver.variables(n), Check.BAD);
            CHECK.states("variables(" + n + ")", solver, 1, 1, 1, 0, 0, 0, 1, 1, 1);
            CHECK.due("x0 is whole still", solver.whole(0, true), 1);
            RowSolver fresh = new RowSolver();
            CHECK.due("variables(" + n + ") of a new one", fresh.variables(n), Check.BAD);
            CHECK.due("none", fresh.state(7), 0);
        }
    }

    private static void variablesNoneWhole() {
        RowSolver solver = new RowSolver();
        solver.variables(10);
        for (int x = 0; x < 10; x++) {
            solver.whole(x, true);
        }
        solver.variables(3);
        solver.variables(10);
        for (int x = 0; x < 10; x++) {
            CHECK.due("x" + x, solver.whole(x, false), 0);
        }
    }

    private static void variablesNoRows() {
        RowSolver solver = new RowSolver();
        for (int round = 0; round < 2; round++) {
            solver.variables(1);
            CHECK.due("rows", solver.state(6), 0);
            for (int i = 0; i < 12; i++) {
                CHECK.due("row " + i, solver.row(1, 1), i);
            }
            CHECK.due("no more", solver.row(1, 1), Check.BAD);
        }
        solver.variables(1);
        CHECK.due("nothing is against it", solver.solve(9), 1);
        CHECK.due("SAT", solver.state(0), 2);
        CHECK.due("no row is broken", solver.judgeWitness(), 0);
    }

    private static void variablesForgetTheRowBeingTold() {
        RowSolver solver = new RowSolver();
        solver.variables(2);
        solver.factor(0, 5);
        solver.factor(1, 5);
        solver.variables(2);
        CHECK.due("row", solver.row(1, 1), 0);
        CHECK.due("0 at least 1", solver.solve(9), 1);
        CHECK.due("UNSAT", solver.state(0), 3);
    }

    private static void variablesNothingBegun() {
        for (int stage = 1; stage <= 4; stage++) {
            RowSolver solver = at(stage);
            int n = solver.state(7);
            CHECK.due("the same number of variables", solver.variables(n), n);
            nothingIsBegun("variables at stage " + stage, solver, 0, n);
        }
    }

    private static void factorOfEachVariable() {
        for (int x = 0; x < 10; x++) {
            RowSolver solver = new RowSolver();
            solver.variables(10);
            CHECK.due("factor(" + x + ", 4)", solver.factor(x, 4), 0);
            solver.row(2, 12);
            CHECK.due("an exchange", solver.solve(9), 2);
            for (int other = 0; other < 10; other++) {
                CHECK.due("x" + other, solver.basic(other), other == x ? 1 : 0);
            }
            CHECK.hand("x" + x, solver, solver.value(x), Check.ratio(3, 1));
        }
    }

    private static void factorBounds() {
        int[] most = {MOST, -MOST};
        for (int a : most) {
            RowSolver solver = new RowSolver();
            solver.variables(1);
            CHECK.due("factor(0, " + a + ")", solver.factor(0, a), 0);
            solver.row(2, 1);
            solver.solve(9);
            CHECK.hand("its value", solver, solver.value(0), Check.ratio(a / MOST, MOST));
        }
        RowSolver solver = new RowSolver();
        solver.variables(1);
        for (int a : TOO_WIDE) {
            CHECK.due("factor(0, " + a + ")", solver.factor(0, a), Check.BAD);
        }
    }

    private static void factorZeroAtFirst() {
        RowSolver solver = new RowSolver();
        solver.variables(3);
        solver.factor(1, 2);
        solver.row(0, 0);
        solver.solve(1);
        int[] due = {0, 2, 0};
        for (int x = 0; x < 3; x++) {
            CHECK.hand("s0 by x" + x, solver, solver.told(3, x), Check.ratio(due[x], 1));
        }
    }

    private static void factorToldAgain() {
        RowSolver solver = new RowSolver();
        solver.variables(2);
        solver.factor(0, -MOST);
        solver.factor(1, 3);
        CHECK.due("another one", solver.factor(0, 7), 0);
        CHECK.due("0", solver.factor(1, 0), 0);
        solver.row(0, 0);
        solver.solve(1);
        CHECK.hand("s0 by x0", solver, solver.told(2, 0), Check.ratio(7, 1));
        CHECK.hand("s0 by x1", solver, solver.told(2, 1), Check.ratio(0, 1));
    }

    private static void factorOfTheRowBeingToldAlone() {
        RowSolver solver = new RowSolver();
        solver.variables(1);
        solver.factor(0, 2);
        solver.row(0, 0);
        solver.factor(0, 3);
        solver.row(0, 0);
        solver.factor(0, 4);
        solver.solve(1);
        CHECK.hand("s0", solver, solver.told(1, 0), Check.ratio(2, 1));
        CHECK.hand("s1", solver, solver.told(2, 0), Check.ratio(3, 1));
        CHECK.due("the row that is being told is none yet", solver.state(6), 2);
    }

    private static void factorRefused() {
        RowSolver solver = new RowSolver();
        solver.variables(2);
        solver.factor(0, 3);
        solver.factor(1, -3);
        for (int a : TOO_WIDE) {
            CHECK.due("factor(1, " + a + ")", solver.factor(1, a), Check.BAD);
        }
        for (int x : NO_PLACES) {
            CHECK.due("factor(" + x + ", 1)", solver.factor(x, 1), Check.BAD);
        }
        CHECK.due("factor(2, 1)", solver.factor(2, 1), Check.BAD);
        CHECK.due("factor(10, 1)", solver.factor(10, 1), Check.BAD);
        solver.row(0, 0);
        solver.solve(1);
        CHECK.hand("s0 by x0", solver, solver.told(2, 0), Check.ratio(3, 1));
        CHECK.hand("s0 by x1", solver, solver.told(2, 1), Check.ratio(-3, 1));
    }

    private static void factorKeepsWhatIsBegun() {
        for (int stage = 1; stage <= 4; stage++) {
            RowSolver solver = at(stage);
            String states = Show.states(solver);
            String places = Show.places(solver);
            CHECK.due("factor", solver.factor(0, 7), 0);
            CHECK.due("stage " + stage, Show.states(solver), states);
            CHECK.due("stage " + stage, Show.places(solver), places);
        }
    }

    private static void factorBehindTwelveRows() {
        RowSolver solver = new RowSolver();
        solver.variables(1);
        for (int i = 0; i < 12; i++) {
            solver.row(0, 0);
        }
        CHECK.due("it is told all the same", solver.factor(0, 1), 0);
        CHECK.due("but not wide ones", solver.factor(0, MOST + 1), Check.BAD);
    }

    private static void rowTellsWhichOne() {
        RowSolver solver = new RowSolver();
        solver.variables(1);
        for (int i = 0; i < 12; i++) {
            CHECK.due("row " + i, solver.row(i % 3, 0), i);
            CHECK.due("rows", solver.state(6), i + 1);
        }
    }

    private static void rowKinds() {
        int[][] due = {{3, 2, 2}, {2, 2, 3}, {3, 2, 3}};
        for (int kind = 0; kind <= 2; kind++) {
            for (int b = -1; b <= 1; b++) {
                RowSolver solver = new RowSolver();
                solver.variables(1);
                CHECK.due("row(" + kind + ", " + b + ")", solver.row(kind, b), 0);
                solver.solve(9);
                CHECK.due("0 and kind " + kind + " and " + b, solver.state(0), due[kind][b + 1]);
            }
        }
    }

    private static void rowBounds() {
        int[] most = {MOST, -MOST};
        for (int b : most) {
            for (int kind = 0; kind <= 2; kind++) {
                RowSolver solver = new RowSolver();
                solver.variables(1);
                solver.factor(0, 1);
                CHECK.due("row(" + kind + ", " + b + ")", solver.row(kind, b), 0);
                solver.solve(9);
                boolean isBeyond = kind == 2 || (kind == 0) == b < 0;
                CHECK.hand("its value", solver, solver.value(0), Check.ratio(isBeyond ? b : 0, 1));
            }
        }
    }

    private static void rowNextHasZeros() {
        RowSolver solver = new RowSolver();
        solver.variables(10);
        for (int x = 0; x < 10; x++) {
            solver.factor(x, x + 1);
        }
        solver.row(0, 0);
        solver.row(0, 0);
        solver.solve(1);
        for (int x = 0; x < 10; x++) {
            CHECK.hand("s0 by x" + x, solver, solver.told(10, x), Check.ratio(x + 1, 1));
            CHECK.hand("s1 by x" + x, solver, solver.told(11, x), Check.ratio(0, 1));
        }
    }

    private static void rowNothingBegun() {
        for (int stage = 1; stage <= 4; stage++) {
            RowSolver solver = at(stage);
            int rows = solver.state(6);
            CHECK.due("one more", solver.row(0, 0), rows);
            nothingIsBegun("row at stage " + stage, solver, rows + 1, solver.state(7));
        }
    }

    private static void rowRefused() {
        RowSolver solver = new RowSolver();
        solver.variables(1);
        solver.solve(1);
        solver.factor(0, 4);
        int[] kinds = {-1, 3, Integer.MAX_VALUE, Integer.MIN_VALUE};
        for (int kind : kinds) {
            CHECK.due("row(" + kind + ", 0)", solver.row(kind, 0), Check.BAD);
        }
        for (int kind = 0; kind <= 2; kind++) {
            for (int b : TOO_WIDE) {
                CHECK.due("row(" + kind + ", " + b + ")", solver.row(kind, b), Check.BAD);
            }
        }
        CHECK.states("nothing changed", solver, 2, 1, 0, 0, 0, 0, 0, 1, 1);
        CHECK.due("row", solver.row(2, 2), 0);
        solver.solve(9);
        CHECK.hand("x0 by 4 x0 = 2", solver, solver.value(0), Check.ratio(1, 2));
    }

    private static void rowWithoutVariables() {
        RowSolver solver = new RowSolver();
        for (int kind = 0; kind <= 2; kind++) {
            CHECK.due("row(" + kind + ", 0)", solver.row(kind, 0), Check.BAD);
        }
        CHECK.states("nothing changed", solver, 0, 0, 0, 0, 0, 0, 0, 0, 0);
    }

    private static void rowBehindTwelve() {
        RowSolver solver = new RowSolver();
        solver.variables(1);
        for (int i = 0; i < 12; i++) {
            solver.factor(0, 1);
            solver.row(1, i);
        }
        solver.solve(3);
        String places = Show.places(solver);
        for (int kind = 0; kind <= 2; kind++) {
            CHECK.due("thirteenth, of kind " + kind, solver.row(kind, 0), Check.BAD);
        }
        CHECK.states("it goes on", solver, 1, 3, 3, 0, 0, 0, 12, 1, 1);
        CHECK.due("it goes on", Show.places(solver), places);
        CHECK.due("to its end", solver.solve(20), 9);
        CHECK.hand("at least 11", solver, solver.value(0), Check.ratio(11, 1));
    }

    private static void wholeTellsWhetherItWas() {
        RowSolver solver = Problems.open();
        CHECK.due("was not", solver.whole(1, true), 0);
        CHECK.due("was", solver.whole(1, true), 1);
        CHECK.due("was", solver.whole(1, false), 1);
        CHECK.due("was not", solver.whole(1, false), 0);
    }

    private static void wholeOfEachVariable() {
        RowSolver solver = new RowSolver();
        solver.variables(10);
        for (int x = 0; x < 10; x++) {
            CHECK.due("x" + x + " was not", solver.whole(x, true), 0);
            for (int other = 0; other < 10; other++) {
                CHECK.due("x" + other, solver.whole(other, other == x), other == x ? 1 : 0);
            }
            CHECK.due("x" + x + " was", solver.whole(x, false), 1);
        }
    }

    private static void wholeNothingBegun() {
        for (int stage = 1; stage <= 4; stage++) {
            for (int x = 0; x < 2; x++) {
                for (int is = 0; is < 2; is++) {
                    RowSolver solver = at(stage);
                    solver.whole(x, is == 1);
                    nothingIsBegun("whole at stage " + stage, solver, solver.state(6), solver.state(7));
                }
            }
        }
    }

    private static void wholeRefused() {
        for (int stage = 1; stage <= 4; stage++) {
            RowSolver solver = at(stage);
            String states = Show.states(solver);
            for (int x : NO_PLACES) {
                CHECK.due("whole(" + x + ", true)", solver.whole(x, true), Check.BAD);
                CHECK.due("whole(" + x + ", false)", solver.whole(x, false), Check.BAD);
            }
            CHECK.due("behind the last one", solver.whole(solver.state(7), true), Check.BAD);
            CHECK.due("x10", solver.whole(10, true), Check.BAD);
            CHECK.due("what is begun stays", Show.states(solver), states);
        }
    }
}
