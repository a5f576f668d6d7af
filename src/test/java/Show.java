import java.math.BigInteger;

/** Tells as text what a solver answers, so that a test can say what is due in one line. */
final class Show {
    private Show() {
    }

    /** All places with their values, those that are basic with a star: "x0*=1/2 s0=1". */
    static String places(RowSolver solver) {
        StringBuilder text = new StringBuilder();
        int variables = solver.state(7);
        int places = variables + solver.state(6);
        for (int place = 0; place < places; place++) {
            text.append(place == 0 ? "" : " ");
            text.append(place < variables ? "x" + place : "s" + (place - variables));
            text.append(solver.basic(place) == 1 ? "*=" : "=");
            text.append(hand(solver, solver.value(place), 2));
        }
        return text.toString();
    }

    /** The multipliers of a leaf that are not 0, of rows s, of upper bounds u, of lower ones l: "s0=-1/2 u0=1". */
    static String leaf(RowSolver solver, int k) {
        if (solver.multiplier(k, 1, 0) == Check.NO_NUMBER) {
            return "no leaf";
        }
        StringBuilder text = new StringBuilder();
        for (int sort = 0; sort < 3; sort++) {
            int count = solver.state(sort == 0 ? 6 : 7);
            for (int i = 0; i < count; i++) {
                int sign = solver.multiplier(k, sort, i);
                if (sign != 0) {
                    text.append(text.length() == 0 ? "" : " ").append("sul".charAt(sort)).append(i);
                    text.append("=").append(hand(solver, sign, 2));
                }
            }
        }
        return text.toString();
    }

    /** What node tells of a node, from 0 to 5. */
    static String node(RowSolver solver, int k) {
        StringBuilder text = new StringBuilder();
        for (int what = 0; what < 6; what++) {
            int told = solver.node(k, what);
            boolean isNone = told == Check.NONE && (what != 2 || solver.node(k, 0) != 0);
            text.append(what == 0 ? "" : " ").append(isNone ? "none" : String.valueOf(told));
        }
        return text.toString();
    }

    /** How it is, then steps, exchanges, conflicts, splits, open splits, rows, variables, nodes. */
    static String states(RowSolver solver) {
        StringBuilder text = new StringBuilder();
        for (int what = 0; what < 9; what++) {
            text.append(what == 0 ? "" : " ").append(solver.state(what));
        }
        return text.toString();
    }

    /** The number at hand, whose sign was just answered, of so many times nine digits. */
    static String hand(RowSolver solver, int sign, int nines) {
        if (sign < -1 || sign > 1) {
            return "sign " + sign;
        }
        BigInteger above = side(solver, 0, nines);
        BigInteger below = side(solver, 1, nines);
        if (above.signum() != Math.abs(sign)) {
            return "sign " + sign + " of " + above;
        }
        String number = (sign < 0 ? "-" : "") + above;
        return below.equals(BigInteger.ONE) ? number : number + "/" + below;
    }

    private static BigInteger side(RowSolver solver, int side, int nines) {
        BigInteger number = BigInteger.ZERO;
        for (int k = nines - 1; k >= 0; k--) {
            number = number.multiply(BigInteger.valueOf(1_000_000_000)).add(BigInteger.valueOf(solver.digits(side, k)));
        }
        return number;
    }
}
