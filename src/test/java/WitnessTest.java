/** Promises 12 to 14: the witness, also when someone has changed it. */
final class WitnessTest {
    private static final Check CHECK = new Check("WitnessTest");

    private static final int MOST = 1_000_000_000;
    private static final int[] TOO_WIDE = {MOST + 1, -MOST - 1, Integer.MAX_VALUE, Integer.MIN_VALUE};

    public static void main(String[] args) {
        witnessOfTheValues();
        witnessOfAllVariables();
        witnessRefused();
        witnessIsKept();
        setWitnessOfEachVariable();
        setWitnessBounds();
        setWitnessNotInLowestTerms();
        setWitnessRefused();
        judgeWithoutVariables();
        judgeWithoutRows();
        judgeAtTheNumber();
        judgeALittleBeyond();
        judgeFirstOfTwelveRows();
        judgeFirstOfTenWholes();
        judgeRowsFirst();
        judgeWhatIsWhole();
        judgeWitness();
        wideWitness();
        witnessOfLargeNumbers();
        CHECK.end();
    }

    private static void witnessOfTheValues() {
        RowSolver solver = Problems.open();
        CHECK.due("0s do not do", solver.judgeWitness(), 1);
        solver.solve(20);
        CHECK.due("0s still", solver.judgeWitness(), 1);
        CHECK.due("SAT", solver.witness(), 0);
        CHECK.due("GOOD", solver.judgeWitness(), 0);
        solver.whole(0, true);
        CHECK.due("1 is whole", solver.judgeWitness(), 0);
        solver.whole(1, true);
        CHECK.due("5/4 is not", solver.judgeWitness(), 101);
    }

    /** x0 is - 3, x1 stays 0, x2 to x9 are others; what was set before goes. */
    private static void witnessOfAllVariables() {
        RowSolver solver = new RowSolver();
        solver.variables(10);
        for (int x = 0; x < 10; x++) {
            if (x != 1) {
                solver.factor(x, x + 1);
                solver.row(2, x == 0 ? -3 : x);
            }
            solver.setWitness(x, 77, 5);
        }
        solver.factor(1, 1);
        solver.row(2, 0);
        CHECK.due("as it was set", solver.judgeWitness(), 1);
        solver.solve(20);
        CHECK.due("SAT", solver.witness(), 0);
        CHECK.due("GOOD", solver.judgeWitness(), 0);
        for (int x = 0; x < 10; x++) {
            solver.setWitness(x, 77, 5);
            CHECK.due("x" + x + " is another", solver.judgeWitness(), x == 0 ? 1 : x == 1 ? 10 : x);
            CHECK.due("SAT still", solver.witness(), 0);
            CHECK.due("GOOD", solver.judgeWitness(), 0);
        }
    }

    /** What was set is judged otherwise than the values would be. */
    private static void witnessRefused() {
        RowSolver solver = Problems.told("-", "1 >= 1", "10 = 13");
        solver.setWitness(0, 13, 10);
        CHECK.due("not begun", solver.witness(), Check.BAD);
        CHECK.due("GOOD by what was set", solver.judgeWitness(), 0);
        solver.solve(1);
        CHECK.due("it goes on", solver.state(0), 1);
        CHECK.due("it goes on", solver.witness(), Check.BAD);
        CHECK.due("GOOD by what was set", solver.judgeWitness(), 0);
        RowSolver unsat = Problems.told("W", "-2 >= 1", "2 >= -1");
        unsat.setWitness(0, -1, 2);
        unsat.solve(20);
        CHECK.due("UNSAT with x0 = 0", unsat.state(0), 3);
        CHECK.due("UNSAT", unsat.witness(), Check.BAD);
        CHECK.due("- 1/2 as it was set", unsat.judgeWitness(), 100);
        RowSolver deep = Problems.far(1, 3);
        deep.solve(20);
        CHECK.due("DEEP", deep.state(0), 4);
        CHECK.due("DEEP", deep.witness(), Check.BAD);
        CHECK.due("0s as at first", deep.judgeWitness(), 1);
    }

    private static void witnessIsKept() {
        RowSolver solver = Problems.open();
        solver.solve(20);
        solver.witness();
        solver.whole(0, true);
        CHECK.due("whole", solver.judgeWitness(), 0);
        Problems.row(solver, 2, 5, 0, 4);
        CHECK.due("row", solver.judgeWitness(), 0);
        solver.factor(0, 9);
        CHECK.due("factor", solver.judgeWitness(), 0);
        solver.solve(1);
        CHECK.due("solve", solver.judgeWitness(), 0);
        CHECK.due("judgeWitness itself", solver.judgeWitness(), 0);
    }

    private static void setWitnessOfEachVariable() {
        RowSolver solver = new RowSolver();
        solver.variables(10);
        for (int x = 0; x < 10; x++) {
            solver.factor(x, 1);
            solver.row(2, x + 1);
        }
        for (int x = 0; x < 10; x++) {
            CHECK.due("the first one that is 0", solver.judgeWitness(), x + 1);
            CHECK.due("setWitness(" + x + ", ..)", solver.setWitness(x, x + 1, 1), 0);
        }
        CHECK.due("GOOD", solver.judgeWitness(), 0);
    }

    /** 10^9 is 1000 times 10^6, a 10^9th is a 1000th of a 10^6th. */
    private static void setWitnessBounds() {
        for (int sign = -1; sign <= 1; sign += 2) {
            RowSolver wide = Problems.told("--", "1 -1000 = 0", "0 1 = " + sign * 1_000_000);
            CHECK.due("10^9 / 1", wide.setWitness(0, sign * MOST, 1), 0);
            CHECK.due("10^6 / 1", wide.setWitness(1, sign * 1_000_000, 1), 0);
            CHECK.due("both are right", wide.judgeWitness(), 0);
            RowSolver small = Problems.told("--", "1000 -1 = 0", "0 1000000 = " + sign);
            CHECK.due("1 / 10^9", small.setWitness(0, sign, MOST), 0);
            CHECK.due("1 / 10^6", small.setWitness(1, sign, 1_000_000), 0);
            CHECK.due("both are right", small.judgeWitness(), 0);
            RowSolver one = Problems.told("W", "1 = " + sign);
            CHECK.due("10^9 / 10^9", one.setWitness(0, sign * MOST, MOST), 0);
            CHECK.due("is 1", one.judgeWitness(), 0);
        }
    }

    private static void setWitnessNotInLowestTerms() {
        RowSolver solver = Problems.told("-", "2 = 1");
        CHECK.due("1/2", solver.setWitness(0, 1, 2), 0);
        CHECK.due("GOOD", solver.judgeWitness(), 0);
        CHECK.due("the same", solver.setWitness(0, MOST / 2, MOST), 0);
        CHECK.due("GOOD", solver.judgeWitness(), 0);
        solver.whole(0, true);
        CHECK.due("and not whole", solver.judgeWitness(), 100);
    }

    private static void setWitnessRefused() {
        RowSolver solver = Problems.told("--", "2 0 = 1", "0 2 = 1");
        solver.setWitness(0, 1, 2);
        solver.setWitness(1, 1, 2);
        int[] wrong = {-1, 2, 10, Integer.MAX_VALUE, Integer.MIN_VALUE};
        for (int x : wrong) {
            CHECK.due("setWitness(" + x + ", 1, 1)", solver.setWitness(x, 1, 1), Check.BAD);
        }
        int[] belows = {0, -1, MOST + 1, -MOST, Integer.MIN_VALUE, Integer.MAX_VALUE};
        for (int x = 0; x < 2; x++) {
            for (int below : belows) {
                CHECK.due("setWitness(" + x + ", 1, " + below + ")", solver.setWitness(x, 1, below), Check.BAD);
            }
            for (int above : TOO_WIDE) {
                CHECK.due("setWitness(" + x + ", " + above + ", 1)", solver.setWitness(x, above, 1), Check.BAD);
            }
        }
        CHECK.due("both are as they were", solver.judgeWitness(), 0);
        RowSolver none = new RowSolver();
        CHECK.due("no variables", none.setWitness(0, 1, 1), Check.BAD);
        none.variables(1);
        Problems.row(none, 2, 0, 1);
        CHECK.due("0 still", none.judgeWitness(), 0);
    }

    private static void judgeWithoutVariables() {
        CHECK.due("no variables", new RowSolver().judgeWitness(), Check.BAD);
    }

    private static void judgeWithoutRows() {
        RowSolver solver = new RowSolver();
        solver.variables(10);
        CHECK.due("no rows", solver.judgeWitness(), 0);
        solver.setWitness(9, 1, 2);
        CHECK.due("any value", solver.judgeWitness(), 0);
        solver.whole(9, true);
        CHECK.due("but no whole one", solver.judgeWitness(), 109);
    }

    private static void judgeAtTheNumber() {
        String[] signs = {"<=", ">=", "="};
        int[][] due = {{0, 0, 1}, {1, 0, 0}, {1, 0, 1}};
        for (int kind = 0; kind < 3; kind++) {
            for (int value = -1; value <= 1; value++) {
                RowSolver solver = Problems.told("-", "1 " + signs[kind] + " 0");
                solver.setWitness(0, value, 1);
                CHECK.due(value + " " + signs[kind] + " 0", solver.judgeWitness(), due[kind][value + 1]);
            }
        }
    }

    private static void judgeALittleBeyond() {
        String[] signs = {"<=", ">=", "="};
        int[][] due = {{0, 1}, {1, 0}, {1, 1}};
        for (int kind = 0; kind < 3; kind++) {
            RowSolver solver = Problems.told("-", "1 " + signs[kind] + " 1");
            solver.setWitness(0, MOST - 1, MOST);
            CHECK.due("a 10^9th less " + signs[kind], solver.judgeWitness(), due[kind][0]);
            solver.setWitness(0, MOST, MOST - 1);
            CHECK.due("a little more " + signs[kind], solver.judgeWitness(), due[kind][1]);
            solver.setWitness(0, MOST, MOST);
            CHECK.due("just so much " + signs[kind], solver.judgeWitness(), 0);
        }
    }

    private static void judgeFirstOfTwelveRows() {
        for (int broken = 0; broken < 12; broken++) {
            RowSolver solver = new RowSolver();
            solver.variables(1);
            for (int i = 0; i < 12; i++) {
                solver.row(0, i == broken || i == 11 ? -1 : 0);
            }
            CHECK.due("row " + broken + ", and row 11", solver.judgeWitness(), 1 + broken);
        }
    }

    private static void judgeFirstOfTenWholes() {
        for (int broken = 0; broken < 10; broken++) {
            RowSolver solver = new RowSolver();
            solver.variables(10);
            for (int x = 0; x < 10; x++) {
                solver.whole(x, true);
            }
            solver.setWitness(broken, 1, 2);
            solver.setWitness(9, 1, 2);
            CHECK.due("x" + broken + ", and x9", solver.judgeWitness(), 100 + broken);
        }
    }

    private static void judgeRowsFirst() {
        RowSolver solver = Problems.told("W", "1 <= 5", "2 = 2");
        solver.setWitness(0, 1, 2);
        CHECK.due("row 1 and x0", solver.judgeWitness(), 2);
        solver.setWitness(0, 11, 2);
        CHECK.due("row 0, row 1 and x0", solver.judgeWitness(), 1);
        solver.setWitness(0, 1, 1);
        CHECK.due("none", solver.judgeWitness(), 0);
    }

    private static void judgeWhatIsWhole() {
        int[][] cases = {{0, 1, 0}, {0, MOST, 0}, {6, 3, 0}, {-6, 3, 0}, {7, 3, 100}, {-7, 3, 100}, {1, 2, 100}, {-1, 2, 100},
            {MOST, 1, 0}, {-MOST, MOST, 0}, {MOST, MOST - 1, 100}, {MOST - 1, MOST, 100}, {1, MOST, 100}, {-1, MOST, 100},
            {MOST, MOST / 2, 0}};
        for (int[] one : cases) {
            RowSolver solver = new RowSolver();
            solver.variables(1);
            solver.setWitness(0, one[0], one[1]);
            CHECK.due(one[0] + " / " + one[1] + " need not be", solver.judgeWitness(), 0);
            solver.whole(0, true);
            CHECK.due(one[0] + " / " + one[1], solver.judgeWitness(), one[2]);
        }
    }

    private static void judgeWitness() {
        RowSolver solver = Problems.open();
        int[][] cases = {{0, 1, 7, 4, 1}, {1, 1, 5, 4, 0}, {3, 1, 1, 4, 0}, {7, 2, 0, 1, 2}, {2, 1, 2, 4, 3},
            {2, 1, 4, 4, 3}, {2, 1, 3, 4, 0}, {5, 2, 1, 2, 0}, {4, 1, 4, 1, 2}, {-9, 1, 4, 1, 1}};
        for (int[] one : cases) {
            solver.setWitness(0, one[0], one[1]);
            solver.setWitness(1, one[2], one[3]);
            String what = one[0] + "/" + one[1] + ", " + one[2] + "/" + one[3];
            CHECK.due(what, solver.judgeWitness(), one[4]);
        }
        solver.whole(0, true);
        solver.whole(1, true);
        solver.setWitness(0, 5, 2);
        solver.setWitness(1, 1, 2);
        CHECK.due("x0 is not whole", solver.judgeWitness(), 100);
        solver.setWitness(0, 2, 1);
        CHECK.due("rows come first", solver.judgeWitness(), 3);
        solver.setWitness(1, 3, 4);
        CHECK.due("x1 is not whole", solver.judgeWitness(), 101);
        solver.whole(1, false);
        solver.setWitness(0, 6, 3);
        CHECK.due("6/3 is whole", solver.judgeWitness(), 0);
    }

    /** Sums of fractions with large denominators that have nothing in common. */
    private static void wideWitness() {
        RowSolver solver = new RowSolver();
        solver.variables(2);
        Problems.row(solver, 2, 1, 1, 1);
        solver.setWitness(0, 1, 999_999_999);
        solver.setWitness(1, 999_999_998, 999_999_999);
        CHECK.due("just 1", solver.judgeWitness(), 0);
        solver.setWitness(1, 999_999_999, 1_000_000_000);
        CHECK.due("a little above 1", solver.judgeWitness(), 1);
        int[] primes = {999_999_937, 999_999_929, 999_999_893, 999_999_883, 999_999_797};
        solver.variables(10);
        int[] ones = {1, 1, 1, 1, 1, 1, 1, 1, 1, 1};
        Problems.row(solver, 2, 5, ones);
        for (int k = 0; k < 5; k++) {
            solver.setWitness(2 * k, 1, primes[k]);
            solver.setWitness(2 * k + 1, primes[k] - 1, primes[k]);
        }
        CHECK.due("just 5", solver.judgeWitness(), 0);
        solver.setWitness(9, primes[4] - 1, primes[4] - 2);
        CHECK.due("a little above 5", solver.judgeWitness(), 1);
        Problems.row(solver, 1, 5, ones);
        solver.variables(10);
        Problems.row(solver, 1, 5, ones);
        CHECK.due("the witness is kept", solver.judgeWitness(), 0);
        Problems.row(solver, 0, 5, ones);
        CHECK.due("a little above 5", solver.judgeWitness(), 2);
    }

    /** A witness that was found, of which someone has changed a part. */
    private static void witnessOfLargeNumbers() {
        RowSolver solver = new RowSolver();
        solver.variables(4);
        Problems.row(solver, 2, 1_000_000, 1);
        Problems.row(solver, 2, 1, -1_000_000, 999_983);
        Problems.row(solver, 2, 2, 0, -1_000_000, 999_979);
        Problems.row(solver, 2, 3, 0, 0, -1_000_000, 999_961);
        solver.solve(100);
        CHECK.due("SAT", solver.witness(), 0);
        CHECK.due("good", solver.judgeWitness(), 0);
        solver.setWitness(3, 1_000_000_000, 999_999_937);
        CHECK.due("the last row", solver.judgeWitness(), 4);
        solver.setWitness(0, 999_999, 1);
        CHECK.due("the first row", solver.judgeWitness(), 1);
        CHECK.due("found again", solver.witness(), 0);
        CHECK.due("good again", solver.judgeWitness(), 0);
    }
}
