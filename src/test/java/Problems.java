import java.util.List;

/** Small problems whose steps are worked out by hand in the tests. */
final class Problems {
    private Problems() {
    }

    static void row(RowSolver solver, int kind, int b, int... factors) {
        for (int x = 0; x < factors.length; x++) {
            solver.factor(x, factors[x]);
        }
        solver.row(kind, b);
    }

    /**
     * A problem as text: a sign for each variable, W if it is whole, then each row: its factors, its kind as <=, >= or
     * =, and its number, with blanks between them.
     */
    static RowSolver told(String wholes, String... rows) {
        RowSolver solver = new RowSolver();
        solver.variables(wholes.length());
        for (String row : rows) {
            String[] words = row.split(" ");
            int n = words.length - 2;
            for (int x = 0; x < n; x++) {
                solver.factor(x, Integer.parseInt(words[x]));
            }
            solver.row(List.of("<=", ">=", "=").indexOf(words[n]), Integer.parseInt(words[n + 1]));
        }
        for (int x = 0; x < wholes.length(); x++) {
            if (wholes.charAt(x) == 'W') {
                solver.whole(x, true);
            }
        }
        return solver;
    }

    /** 2 x0 = 1, x0 whole: an exchange, a split at 0, a conflict on either side. */
    static RowSolver half() {
        RowSolver solver = new RowSolver();
        solver.variables(1);
        row(solver, 2, 1, 2);
        solver.whole(0, true);
        return solver;
    }

    /** 2 x0 - x1 = 1, x1 at most 0 and at least 0, x0 whole: at BACK x0 is not basic. */
    static RowSolver wedge() {
        RowSolver solver = new RowSolver();
        solver.variables(2);
        row(solver, 2, 1, 2, -1);
        row(solver, 0, 0, 0, 1);
        row(solver, 1, 0, 0, 1);
        solver.whole(0, true);
        return solver;
    }

    /** x0 at least 1, at most 3, 2 x0 + 4 x1 = 7: SAT. */
    static RowSolver open() {
        RowSolver solver = new RowSolver();
        solver.variables(2);
        row(solver, 1, 1, 1, 0);
        row(solver, 0, 3, 1, 0);
        row(solver, 2, 7, 2, 4);
        return solver;
    }

    /** One equal row, and each variable within its end either way, all whole. */
    static RowSolver boxed(int b, int[] factors, int[] ends) {
        RowSolver solver = new RowSolver();
        solver.variables(factors.length);
        row(solver, 2, b, factors);
        for (int x = 0; x < ends.length; x++) {
            solver.factor(x, 1);
            solver.row(0, ends[x]);
            solver.factor(x, 1);
            solver.row(1, -ends[x]);
            solver.whole(x, true);
        }
        return solver;
    }

    /** x3 = (sign * 2 * 10^18 + b) / 2, x3 whole. */
    static RowSolver far(int sign, int b) {
        RowSolver solver = new RowSolver();
        solver.variables(4);
        row(solver, 2, 1_000_000, 1);
        row(solver, 2, 0, -1_000_000, 1);
        row(solver, 2, 0, 0, -2, 1);
        row(solver, 2, b, 0, 0, -sign * 1_000_000, 2);
        solver.whole(3, true);
        return solver;
    }
}
