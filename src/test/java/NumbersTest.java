/** Promises 9 to 11: values and factors that come to hand, and their digits. */
final class NumbersTest {
    private static final Check CHECK = new Check("NumbersTest");

    public static void main(String[] args) {
        values();
        factors();
        digits();
        handIsKept();
        CHECK.end();
    }

    private static void values() {
        RowSolver solver = Problems.open();
        CHECK.due("not begun", solver.value(0), Check.NO_NUMBER);
        CHECK.due("nothing at hand", solver.digits(0, 0), Check.BAD);
        solver.solve(20);
        int[] wrong = {-1, 5, 22, Integer.MAX_VALUE, Integer.MIN_VALUE};
        for (int place : wrong) {
            CHECK.due("value(" + place + ")", solver.value(place), Check.NO_NUMBER);
        }
        CHECK.due("still nothing at hand", solver.digits(1, 0), Check.BAD);
        // x0 becomes 1 for s0; then s2 = 2 s0 + 4 x1 = 2 is below 7: x1 comes before s0.
        CHECK.hand("x0", solver, solver.value(0), Check.ratio(1, 1));
        CHECK.hand("x1", solver, solver.value(1), Check.ratio(5, 4));
        CHECK.hand("s0", solver, solver.value(2), Check.ratio(1, 1));
        CHECK.hand("s1", solver, solver.value(3), Check.ratio(1, 1));
        CHECK.hand("s2", solver, solver.value(4), Check.ratio(7, 1));
        solver.variables(2);
        CHECK.due("not begun again", solver.value(0), Check.NO_NUMBER);
    }

    private static void factors() {
        RowSolver solver = Problems.wedge();
        CHECK.due("not begun", solver.told(2, 0), Check.NO_NUMBER);
        solver.solve(3);
        // x1 = 2 x0 - s0, s1 = s2 = x1
        int[] basics = {1, 3, 4};
        for (int place : basics) {
            CHECK.hand("by x0", solver, solver.told(place, 0), Check.ratio(2, 1));
            CHECK.hand("by s0", solver, solver.told(place, 2), Check.ratio(-1, 1));
            CHECK.due("by a basic one", solver.told(place, 1), Check.NO_NUMBER);
            CHECK.due("by itself", solver.told(place, place), Check.NO_NUMBER);
            CHECK.due("by none", solver.told(place, 5), Check.NO_NUMBER);
            CHECK.due("by none", solver.told(place, -1), Check.NO_NUMBER);
            CHECK.due("of one that is not basic", solver.told(0, place), Check.NO_NUMBER);
            CHECK.due("of none", solver.told(5, 0), Check.NO_NUMBER);
            CHECK.due("of none", solver.told(Integer.MIN_VALUE, 0), Check.NO_NUMBER);
        }
        CHECK.due("neither is basic", solver.told(0, 2), Check.NO_NUMBER);
        RowSolver open = Problems.open();
        open.solve(20);
        // x0 = s0, x1 = s2 / 4 - s0 / 2, s1 = s0
        CHECK.hand("x1 by s0", open, open.told(1, 2), Check.ratio(-1, 2));
        CHECK.hand("x1 by s2", open, open.told(1, 4), Check.ratio(1, 4));
        CHECK.hand("x0 by s2", open, open.told(0, 4), Check.ratio(0, 1));
        CHECK.hand("s1 by s0", open, open.told(3, 2), Check.ratio(1, 1));
    }

    private static void digits() {
        RowSolver solver = new RowSolver();
        solver.variables(4);
        Problems.row(solver, 2, -1_000_000, 1);
        Problems.row(solver, 2, 0, -1_000_000, 1);
        Problems.row(solver, 2, 0, 0, -1_000_000, 1);
        Problems.row(solver, 2, -1, 0, 0, -1_000_000, 7);
        solver.solve(20);
        CHECK.due("x3 = - (10^24 + 1) / 7", solver.value(3), -1);
        int[] above = {1, 0, 1_000_000, 0, 0};
        for (int k = 0; k < above.length; k++) {
            CHECK.due("numerator " + k, solver.digits(0, k), above[k]);
            CHECK.due("denominator " + k, solver.digits(1, k), k == 0 ? 7 : 0);
        }
        CHECK.due("far beyond", solver.digits(0, Integer.MAX_VALUE), 0);
        CHECK.due("far beyond", solver.digits(1, Integer.MAX_VALUE), 0);
        int[] wrong = {-1, 2, Integer.MAX_VALUE, Integer.MIN_VALUE};
        for (int side : wrong) {
            CHECK.due("digits(" + side + ", 0)", solver.digits(side, 0), Check.BAD);
        }
        CHECK.due("digits(0, -1)", solver.digits(0, -1), Check.BAD);
        CHECK.due("digits(1, least)", solver.digits(1, Integer.MIN_VALUE), Check.BAD);
        CHECK.due("s2", solver.value(6), 0);
        CHECK.due("0's numerator", solver.digits(0, 0), 0);
        CHECK.due("0's denominator", solver.digits(1, 0), 1);
    }

    private static void handIsKept() {
        RowSolver solver = Problems.half();
        solver.solve(1);
        solver.value(0);
        solver.value(9);
        solver.told(0, 0);
        solver.multiplier(7, 0, 0);
        solver.solve(20);
        solver.variables(3);
        CHECK.due("numerator", solver.digits(0, 0), 1);
        CHECK.due("denominator", solver.digits(1, 0), 2);
    }
}
