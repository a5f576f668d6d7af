/** Promises 9 to 11: values and factors that come to hand, and their digits; a test for each sentence. */
final class NumbersTest {
    private static final Check CHECK = new Check("NumbersTest");
    private static final int[] NO_PLACES = {-1, 5, 6, 22, Integer.MAX_VALUE, Integer.MIN_VALUE};

    public static void main(String[] args) {
        valueOfEachPlace();
        valueSigns();
        valueInLowestTerms();
        valueOfNoPlace();
        valueNotBegun();
        toldOfEachPair();
        toldOfNoPlace();
        toldOfOneThatIsNotBasic();
        toldByOneThatIsBasic();
        toldNotBegun();
        digitsOfNineTogether();
        digitsOfDenominators();
        digitsOfManyNines();
        digitsWithoutTheSign();
        digitsBeyond();
        digitsOfZero();
        digitsOfAnotherSide();
        digitsBelowZero();
        digitsOfNothing();
        handIsKeptByRefusedCalls();
        handIsKeptWhenNothingIsBegun();
        handIsTheLastOne();
        handIsAsItWas();
        CHECK.end();
    }

    /** x0 becomes 1 for s0; then s2 = 2 s0 + 4 x1 = 2 is below 7: x1 comes before s0. */
    private static RowSolver solvedOpen() {
        RowSolver solver = Problems.open();
        solver.solve(20);
        return solver;
    }

    private static void valueOfEachPlace() {
        RowSolver solver = solvedOpen();
        CHECK.hand("x0", solver, solver.value(0), Check.ratio(1, 1));
        CHECK.hand("x1", solver, solver.value(1), Check.ratio(5, 4));
        CHECK.hand("s0", solver, solver.value(2), Check.ratio(1, 1));
        CHECK.hand("s1", solver, solver.value(3), Check.ratio(1, 1));
        CHECK.hand("s2", solver, solver.value(4), Check.ratio(7, 1));
    }

    private static void valueSigns() {
        RowSolver solver = Problems.told("---", "2 0 0 = -1", "0 2 0 = 1");
        solver.solve(20);
        CHECK.due("below 0", solver.value(0), -1);
        CHECK.due("above 0", solver.value(1), 1);
        CHECK.due("0", solver.value(2), 0);
    }

    private static void valueInLowestTerms() {
        int[][] cases = {{6, 4, 2, 3}, {6, -4, -2, 3}, {-6, 4, -2, 3}, {-6, -4, 2, 3}, {1000000, 1000000, 1, 1},
            {1000000, 999999, 999999, 1000000}, {999999, 1000000, 1000000, 999999}, {5, 0, 0, 1}, {-1000000, 2, -1, 500000}};
        for (int[] one : cases) {
            RowSolver solver = Problems.told("-", one[0] + " = " + one[1]);
            solver.solve(20);
            CHECK.hand(one[0] + " x0 = " + one[1], solver, solver.value(0), Check.ratio(one[2], one[3]));
        }
    }

    private static void valueOfNoPlace() {
        RowSolver solver = solvedOpen();
        for (int place : NO_PLACES) {
            CHECK.due("value(" + place + ")", solver.value(place), Check.NO_NUMBER);
        }
        CHECK.due("still nothing at hand", solver.digits(1, 0), Check.BAD);
        CHECK.due("the last one", solver.value(4), 1);
    }

    private static void valueNotBegun() {
        RowSolver solver = Problems.open();
        for (int place = 0; place < 5; place++) {
            CHECK.due("not begun", solver.value(place), Check.NO_NUMBER);
        }
        CHECK.due("nothing at hand", solver.digits(0, 0), Check.BAD);
        solver.solve(1);
        CHECK.due("begun", solver.value(4), 1);
        solver.variables(2);
        CHECK.due("not begun again", solver.value(0), Check.NO_NUMBER);
    }

    private static void toldOfEachPair() {
        // x0 = s0, x1 = s2 / 4 - s0 / 2, s1 = s0
        int[][] due = {{0, 2, 1, 1}, {0, 4, 0, 1}, {1, 2, -1, 2}, {1, 4, 1, 4}, {3, 2, 1, 1}, {3, 4, 0, 1}};
        RowSolver solver = solvedOpen();
        for (int[] one : due) {
            String what = "told(" + one[0] + ", " + one[1] + ")";
            CHECK.hand(what, solver, solver.told(one[0], one[1]), Check.ratio(one[2], one[3]));
        }
    }

    private static void toldOfNoPlace() {
        RowSolver solver = solvedOpen();
        for (int place : NO_PLACES) {
            CHECK.due("told(" + place + ", 2)", solver.told(place, 2), Check.NO_NUMBER);
            CHECK.due("told(1, " + place + ")", solver.told(1, place), Check.NO_NUMBER);
            CHECK.due("told(" + place + ", " + place + ")", solver.told(place, place), Check.NO_NUMBER);
        }
        CHECK.due("nothing at hand", solver.digits(0, 0), Check.BAD);
    }

    private static void toldOfOneThatIsNotBasic() {
        RowSolver solver = solvedOpen();
        int[][] pairs = {{2, 4}, {4, 2}, {2, 2}, {4, 4}};
        for (int[] pair : pairs) {
            CHECK.due("neither is basic", solver.told(pair[0], pair[1]), Check.NO_NUMBER);
        }
        for (int by = 0; by < 5; by++) {
            CHECK.due("told(2, " + by + ")", solver.told(2, by), Check.NO_NUMBER);
            CHECK.due("told(4, " + by + ")", solver.told(4, by), Check.NO_NUMBER);
        }
        CHECK.due("nothing at hand", solver.digits(0, 0), Check.BAD);
    }

    private static void toldByOneThatIsBasic() {
        RowSolver solver = solvedOpen();
        int[] basics = {0, 1, 3};
        for (int place : basics) {
            for (int by : basics) {
                CHECK.due("told(" + place + ", " + by + ")", solver.told(place, by), Check.NO_NUMBER);
            }
        }
        CHECK.due("nothing at hand", solver.digits(0, 0), Check.BAD);
    }

    private static void toldNotBegun() {
        RowSolver solver = Problems.open();
        CHECK.due("not begun", solver.told(2, 0), Check.NO_NUMBER);
        solver.solve(1);
        CHECK.due("begun", solver.told(4, 1), 1);
        solver.whole(0, true);
        CHECK.due("not begun again", solver.told(4, 1), Check.NO_NUMBER);
    }

    /** x1 = 10^9 and a little more or less, and the same below 0. */
    private static void digitsOfNineTogether() {
        int[][] cases = {{-1, 999_999_999, 0}, {0, 0, 1}, {1, 1, 1}, {1_000_000, 1_000_000, 1}};
        for (int[] one : cases) {
            for (int sign = -1; sign <= 1; sign += 2) {
                RowSolver solver = Problems.told("--", "1 0 = " + sign * 1000, "-1000000 1 = " + sign * one[0]);
                solver.solve(20);
                CHECK.due("10^9 and " + one[0], solver.value(1), sign);
                CHECK.due("10^9 and " + one[0] + ": lowest nine", solver.digits(0, 0), one[1]);
                CHECK.due("10^9 and " + one[0] + ": next nine", solver.digits(0, 1), one[2]);
                CHECK.due("10^9 and " + one[0] + ": beyond", solver.digits(0, 2), 0);
                CHECK.due("10^9 and " + one[0] + ": denominator", solver.digits(1, 0), 1);
            }
        }
    }

    /** 999,999,999 = 2997 * 333,667 and 1,000,000,001 = 1001 * 999,001. */
    private static void digitsOfDenominators() {
        int[][] cases = {{2997, 333_667, 999_999_999, 0}, {1000, 1_000_000, 0, 1}, {1001, 999_001, 1, 1}};
        for (int[] one : cases) {
            RowSolver solver = Problems.told("--", one[0] + " 0 = 1", "-1 " + one[1] + " = 0");
            solver.solve(20);
            String what = "1 / (" + one[0] + " * " + one[1] + ")";
            CHECK.due(what, solver.value(1), 1);
            CHECK.due(what + ": numerator", solver.digits(0, 0), 1);
            CHECK.due(what + ": numerator beyond", solver.digits(0, 1), 0);
            CHECK.due(what + ": lowest nine", solver.digits(1, 0), one[2]);
            CHECK.due(what + ": next nine", solver.digits(1, 1), one[3]);
            CHECK.due(what + ": beyond", solver.digits(1, 2), 0);
        }
    }

    /** Each variable is 10^6 times the one before it, or a 10^6th of it: 10^60 and 1 / 10^60 for the last one. */
    private static void digitsOfManyNines() {
        for (int way = 0; way < 2; way++) {
            RowSolver solver = new RowSolver();
            solver.variables(10);
            solver.factor(0, way == 0 ? 1 : 1_000_000);
            solver.row(2, way == 0 ? 1_000_000 : 1);
            for (int x = 1; x < 10; x++) {
                solver.factor(x - 1, way == 0 ? -1_000_000 : -1);
                solver.factor(x, way == 0 ? 1 : 1_000_000);
                solver.row(2, 0);
            }
            solver.solve(20);
            CHECK.due("x9", solver.value(9), 1);
            for (int k = 0; k < 12; k++) {
                CHECK.due("10^60, nine " + k, solver.digits(way, k), k == 6 ? 1_000_000 : 0);
                CHECK.due("1, nine " + k, solver.digits(1 - way, k), k == 0 ? 1 : 0);
            }
        }
    }

    private static void digitsWithoutTheSign() {
        RowSolver solver = Problems.told("-", "3 = -7");
        solver.solve(20);
        CHECK.due("the sign", solver.value(0), -1);
        CHECK.due("numerator", solver.digits(0, 0), 7);
        CHECK.due("denominator", solver.digits(1, 0), 3);
        CHECK.due("beyond", solver.digits(0, 1), 0);
    }

    private static void digitsBeyond() {
        RowSolver solver = solvedOpen();
        solver.value(1);
        int[] far = {1, 2, 7, 8, 11, 12, 127, 128, 1_000_000, Integer.MAX_VALUE};
        for (int k : far) {
            CHECK.due("digits(0, " + k + ")", solver.digits(0, k), 0);
            CHECK.due("digits(1, " + k + ")", solver.digits(1, k), 0);
        }
    }

    private static void digitsOfZero() {
        RowSolver solver = solvedOpen();
        CHECK.due("0", solver.told(0, 4), 0);
        CHECK.due("0's numerator", solver.digits(0, 0), 0);
        CHECK.due("0's denominator", solver.digits(1, 0), 1);
        CHECK.due("0's denominator beyond", solver.digits(1, 1), 0);
    }

    private static void digitsOfAnotherSide() {
        RowSolver solver = solvedOpen();
        solver.value(1);
        int[] sides = {-1, 2, Integer.MAX_VALUE, Integer.MIN_VALUE};
        for (int side : sides) {
            CHECK.due("digits(" + side + ", 0)", solver.digits(side, 0), Check.BAD);
            CHECK.due("digits(" + side + ", 1)", solver.digits(side, 1), Check.BAD);
        }
        CHECK.due("numerator", solver.digits(0, 0), 5);
        CHECK.due("denominator", solver.digits(1, 0), 4);
    }

    private static void digitsBelowZero() {
        RowSolver solver = solvedOpen();
        solver.value(1);
        int[] wrong = {-1, -2, Integer.MIN_VALUE};
        for (int k : wrong) {
            CHECK.due("digits(0, " + k + ")", solver.digits(0, k), Check.BAD);
            CHECK.due("digits(1, " + k + ")", solver.digits(1, k), Check.BAD);
        }
    }

    private static void digitsOfNothing() {
        RowSolver solver = solvedOpen();
        CHECK.due("numerator", solver.digits(0, 0), Check.BAD);
        CHECK.due("denominator", solver.digits(1, 0), Check.BAD);
        CHECK.due("beyond", solver.digits(0, 5), Check.BAD);
        solver.value(0);
        CHECK.due("now there is one", solver.digits(0, 0), 1);
    }

    private static void handIsKeptByRefusedCalls() {
        RowSolver solver = Problems.half();
        solver.solve(1);
        solver.value(0);
        solver.value(9);
        solver.told(0, 0);
        solver.multiplier(7, 0, 0);
        solver.digits(2, 0);
        CHECK.due("numerator", solver.digits(0, 0), 1);
        CHECK.due("denominator", solver.digits(1, 0), 2);
    }

    private static void handIsKeptWhenNothingIsBegun() {
        RowSolver solver = Problems.half();
        solver.solve(1);
        solver.value(0);
        solver.solve(20);
        CHECK.due("solved on", solver.digits(1, 0), 2);
        solver.whole(0, false);
        CHECK.due("whole", solver.digits(1, 0), 2);
        solver.row(0, 5);
        CHECK.due("row", solver.digits(1, 0), 2);
        solver.variables(3);
        CHECK.due("variables", solver.digits(1, 0), 2);
    }

    private static void handIsTheLastOne() {
        RowSolver solver = Problems.told("W", "2 = 1");
        solver.solve(3);
        CHECK.hand("value", solver, solver.value(1), Check.ratio(1, 1));
        CHECK.hand("told", solver, solver.told(0, 1), Check.ratio(1, 2));
        CHECK.hand("multiplier", solver, solver.multiplier(1, 0, 0), Check.ratio(-1, 2));
        CHECK.hand("value", solver, solver.value(0), Check.ratio(1, 2));
        CHECK.hand("an open leaf's", solver, solver.multiplier(2, 0, 0), Check.ratio(0, 1));
    }

    /** What came to hand stays as it was then, also when the multiplier or the value is another one now. */
    private static void handIsAsItWas() {
        RowSolver solver = Problems.half();
        solver.solve(3);
        solver.multiplier(1, 0, 0);
        CHECK.due("set", solver.setMultiplier(1, 0, 0, 5, 7), 0);
        CHECK.hand("as it was", solver, -1, Check.ratio(-1, 2));
        CHECK.hand("as it is", solver, solver.multiplier(1, 0, 0), Check.ratio(5, 7));
        RowSolver moved = Problems.wedge();
        moved.solve(3);
        moved.value(1);
        moved.solve(1);
        CHECK.hand("x1 before", moved, -1, Check.ratio(-1, 1));
        moved.told(1, 0);
        moved.solve(20);
        moved.witness();
        moved.setWitness(0, 3, 5);
        moved.judgeWitness();
        moved.judgeTree();
        CHECK.hand("x1 by x0", moved, 1, Check.ratio(2, 1));
    }
}
