/** Counts what is not as due, and prints it. */
final class Check {
    static final int BAD = -1, NONE = -2, NO_NUMBER = -4, NO_NODE = -2_100_000_000;

    private final String name;
    private int checks;
    private int wrong;

    Check(String name) {
        this.name = name;
    }

    void due(String what, long got, long want) {
        checks++;
        if (got != want) {
            wrong++;
            System.out.println(name + ": " + what + " answered " + got + ", due is " + want);
        }
    }

    void due(String what, String got, String want) {
        checks++;
        if (!got.equals(want)) {
            wrong++;
            System.out.println(name + ": " + what + " is " + got + ", due is " + want);
        }
    }

    /** The number at hand, whose sign was just answered. */
    void hand(String what, RowSolver solver, int sign, int[] number) {
        due(what + " sign", sign, number[0]);
        due(what + " numerator", solver.digits(0, 0), number[1]);
        due(what + " denominator", solver.digits(1, 0), number[2]);
        due(what + " numerator's next", solver.digits(0, 1), 0);
        due(what + " denominator's next", solver.digits(1, 1), 0);
    }

    static int[] ratio(int above, int below) {
        return new int[] {Integer.signum(above), Math.abs(above), below};
    }

    void states(String what, RowSolver solver, int... states) {
        for (int k = 0; k < states.length; k++) {
            due(what + " state(" + k + ")", solver.state(k), states[k]);
        }
    }

    void end() {
        System.out.println(name + ": " + checks + " checks, " + wrong + " wrong");
        System.exit(wrong == 0 && checks > 0 ? 0 : 1);
    }
}
