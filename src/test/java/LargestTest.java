import java.util.function.ToIntBiFunction;

/**
 * The largest numbers that the bounds of 'Terms' leave room for: ten variables, twelve rows, factors of a million either way
 * whose determinants are as large as they can be, and bounds by splits of 10^18. All is compared with the Reference.
 */
final class LargestTest {
    private static final Check CHECK = new Check("LargestTest");
    private static final int MOST = 1_000_000;
    private static final int MOST_GIVEN = 1_000_000_000;
    private static final int NINES = 13;

    private final RowSolver solver = new RowSolver();
    private final Reference reference = new Reference();

    public static void main(String[] args) {
        largestDeterminant();
        justBelowTheLargest();
        conflictOfAllRows();
        judgedWithAllOthersSet();
        judgedBesideAnotherDenominator();
        witnessWithAllOthersSet();
        farBoundsAmongWideRows();
        CHECK.end();
    }

    /** No ten by ten signs have a larger determinant than these: 73,728. */
    private static int sign(int i, int x) {
        int turn = i >= 5 && x < 5 ? -1 : 1;
        return i % 5 == x % 5 ? -turn : turn;
    }

    /** Factors of a million, or a little less so that little can be reduced, with those signs; rows 10 and 11 have others. */
    private static int wide(int i, int x, int less) {
        if (i >= 10) {
            return (x % 3 == 0 ? -1 : 1) * (MOST / (x + 2) + i);
        }
        return sign(i, x) * (MOST - less * ((7 * i + 3 * x + i * x) % 11));
    }

    private void ask(String what, ToIntBiFunction<RowSolver, Reference> due) {
        CHECK.due(what, due.applyAsInt(solver, reference), 0);
    }

    private static int differ(int one, int other) {
        return one == other ? 0 : 1;
    }

    private void variables(int n) {
        ask("variables", (s, r) -> differ(s.variables(n), r.variables(n)));
    }

    private void row(int kind, int b, int... factors) {
        for (int k = 0; k < factors.length; k++) {
            int x = k;
            ask("factor", (s, r) -> differ(s.factor(x, factors[x]), r.factor(x, factors[x])));
        }
        ask("row", (s, r) -> differ(s.row(kind, b), r.row(kind, b)));
    }

    private void solve(int n) {
        ask("solve", (s, r) -> differ(s.solve(n), r.solve(n)));
    }

    private static LargestTest told(int rows, int kind, int less) {
        LargestTest test = new LargestTest();
        test.variables(10);
        for (int i = 0; i < rows; i++) {
            int[] factors = new int[10];
            for (int x = 0; x < 10; x++) {
                factors[x] = wide(i, x, less);
            }
            test.row(kind, i % 2 == 0 ? MOST : 1 - MOST, factors);
        }
        return test;
    }

    /** Both have the same number at hand; how many times nine digits its longer side has. */
    private int sameHand(String what, int sign, int due) {
        CHECK.due(what + " sign", sign, due);
        int longest = 0;
        for (int side = 0; side < 2; side++) {
            for (int k = 0; k < NINES; k++) {
                int got = solver.digits(side, k);
                CHECK.due(what + " side " + side + " nine " + k, got, reference.digits(side, k));
                longest = got > 0 ? Math.max(longest, k + 1) : longest;
            }
        }
        return longest;
    }

    private int sameValues() {
        int longest = 0;
        for (int place = 0; place < reference.state(6) + reference.state(7); place++) {
            CHECK.due("basic " + place, solver.basic(place), reference.basic(place));
            longest = Math.max(longest, sameHand("value " + place, solver.value(place), reference.value(place)));
        }
        return longest;
    }

    private int sameCells() {
        int longest = 0;
        int places = reference.state(6) + reference.state(7);
        for (int place = 0; place < places; place++) {
            for (int by = 0; by < places; by++) {
                int due = reference.told(place, by);
                if (due == Check.NO_NUMBER) {
                    CHECK.due("told", solver.told(place, by), due);
                } else {
                    longest = Math.max(longest, sameHand("told " + place + " by " + by, solver.told(place, by), due));
                }
            }
        }
        return longest;
    }

    private int sameLeaf(int leaf) {
        int longest = 0;
        for (int sort = 0; sort < 3; sort++) {
            for (int i = 0; i < reference.state(sort == 0 ? 6 : 7); i++) {
                int due = reference.multiplier(leaf, sort, i);
                longest = Math.max(longest, sameHand("multiplier", solver.multiplier(leaf, sort, i), due));
            }
        }
        return longest;
    }

    private void sameStates() {
        for (int what = 0; what < 9; what++) {
            CHECK.due("state " + what, solver.state(what), reference.state(what));
        }
    }

    private void judged(String what, int due) {
        CHECK.due(what, solver.judgeTree(), due);
        CHECK.due(what + " by the reference", reference.judgeTree(), due);
    }

    private void setMultiplier(int k, int sort, int i, int above, int below) {
        ask("setMultiplier", (s, r) -> differ(s.setMultiplier(k, sort, i, above, below),
                r.setMultiplier(k, sort, i, above, below)));
    }

    private static void largestDeterminant() {
        LargestTest test = told(10, 2, 0);
        for (int step = 0; step < 11; step++) {
            test.solve(1);
            test.sameValues();
            test.sameCells();
        }
        CHECK.due("SAT", Show.states(test.solver), "2 11 10 0 0 0 10 10 1");
        CHECK.due("found", test.solver.witness(), 0);
        CHECK.due("GOOD", test.solver.judgeWitness(), 0);
    }

    private static void justBelowTheLargest() {
        int[] lesses = {3, 9, 11, 13, 17};
        for (int less : lesses) {
            LargestTest test = told(10, 2, less);
            test.solve(20);
            int values = test.sameValues();
            int cells = test.sameCells();
            CHECK.due("the longest numbers have 64 digits or more", Math.min(values, cells), 8);
            CHECK.due("found", test.solver.witness(), 0);
            CHECK.due("GOOD", test.solver.judgeWitness(), 0);
        }
    }

    private static LargestTest conflicting() {
        LargestTest test = told(12, 2, 3);
        test.solve(20_000);
        CHECK.due("UNSAT", Show.states(test.solver), "3 11 10 1 0 0 12 10 1");
        return test;
    }

    private static void conflictOfAllRows() {
        LargestTest test = conflicting();
        test.sameStates();
        test.sameValues();
        test.sameCells();
        CHECK.due("the longest multiplier has 64 digits or more", test.sameLeaf(0), 8);
        test.judged("GOOD", 0);
    }

    /** Row 11 has no part in the conflict; then each other one has its own denominator. */
    private static void judgedWithAllOthersSet() {
        LargestTest test = conflicting();
        test.setMultiplier(0, 0, 11, 1, MOST_GIVEN - 63);
        test.judged("a little of row 11", 1);
        test.setMultiplier(0, 0, 11, 0, MOST_GIVEN - 63);
        test.judged("nothing of it", 0);
        test.setMultiplier(0, 0, 0, MOST_GIVEN - 1, MOST_GIVEN - 71);
        test.judged("row 0 is another", 1);
        for (int x = 0; x < 10; x++) {
            test.setMultiplier(0, 1, x, 0, MOST_GIVEN);
            test.setMultiplier(0, 2, x, 0, MOST_GIVEN - 1);
        }
        test.judged("bounds without a part", 1);
        test.sameLeaf(0);
    }

    /** x0 is in rows 0 and 1 alone, which are the same: the conflict names neither, and they may cancel each other. */
    private static void judgedBesideAnotherDenominator() {
        LargestTest test = new LargestTest();
        test.variables(10);
        for (int i = 0; i < 12; i++) {
            int[] factors = new int[10];
            for (int x = i < 2 ? 0 : 1; x < 10; x++) {
                factors[x] = wide(i < 2 ? 0 : i, x, 3);
            }
            test.row(2, i < 2 ? MOST : i - MOST, factors);
        }
        test.solve(20_000);
        CHECK.due("UNSAT", test.solver.state(0), 3);
        CHECK.due("long multipliers", Math.max(6, test.sameLeaf(0)), test.sameLeaf(0));
        CHECK.due("row 0 is not named", test.solver.multiplier(0, 0, 0), 0);
        CHECK.due("row 1 is not named", test.solver.multiplier(0, 0, 1), 0);
        test.judged("GOOD", 0);
        test.setMultiplier(0, 0, 0, MOST_GIVEN, MOST_GIVEN - 63);
        test.judged("row 0 alone", 1);
        test.setMultiplier(0, 0, 1, -MOST_GIVEN, MOST_GIVEN - 63);
        test.judged("row 0 less row 1", 0);
        test.setMultiplier(0, 0, 1, 1 - MOST_GIVEN, MOST_GIVEN - 64);
        test.judged("a little of row 1 is left", 1);
    }

    private static void witnessWithAllOthersSet() {
        LargestTest test = told(10, 2, 3);
        test.solve(20);
        for (int x = 0; x < 10; x++) {
            CHECK.due("found", test.solver.witness() + test.reference.witness(), 0);
            for (int other = 0; other < 10; other += 2) {
                int set = (x + other) % 10;
                int below = MOST_GIVEN - 7 * other - 1;
                test.ask("set", (s, r) -> differ(s.setWitness(set, MOST_GIVEN, below), r.setWitness(set, MOST_GIVEN, below)));
                CHECK.due("judged", test.solver.judgeWitness(), test.reference.judgeWitness());
            }
        }
    }

    /**
     * x3 is whole, at least 10^18 + 1/2 or at most - 10^18 + 1/2: it comes to rest at 10^18 + 1 behind a BACK, or at - 10^18,
     * and x4 to x9 are told by it in wide rows.
     */
    private static void farBoundsAmongWideRows() {
        for (int rows = 10; rows <= 12; rows++) {
            for (int sign = -1; sign <= 1; sign += 2) {
                LargestTest test = far(sign, rows);
                int longest = 0;
                for (int step = 0; step < 60 && test.reference.state(0) <= 1; step++) {
                    test.solve(1);
                    longest = Math.max(longest, test.sameValues());
                    test.sameStates();
                }
                CHECK.due("its longest numbers", longest, 7);
                CHECK.due("judged", test.solver.judgeTree(), test.reference.judgeTree());
                CHECK.due("found", test.solver.witness(), test.reference.witness());
                CHECK.due("judged", test.solver.judgeWitness(), test.reference.judgeWitness());
                if (rows == 10) {
                    CHECK.due("SAT behind a split", Show.states(test.solver),
                            sign > 0 ? "2 14 11 1 1 1 10 10 3" : "2 13 11 0 1 1 10 10 2");
                    CHECK.due("where x3 rests", Show.hand(test.solver, test.solver.value(3), 3),
                            sign > 0 ? "1000000000000000001" : "-1000000000000000000");
                }
            }
        }
    }

    private static LargestTest far(int sign, int rows) {
        LargestTest test = new LargestTest();
        test.variables(10);
        test.row(2, sign * MOST, 1);
        test.row(2, 0, -MOST, 1);
        test.row(2, 0, 0, -2, 1);
        test.row(sign > 0 ? 1 : 0, 1, 0, 0, -MOST, 2);
        for (int i = 4; i < rows; i++) {
            int[] factors = new int[10];
            for (int x = 3; x < 10; x++) {
                factors[x] = wide(i, x, 3);
            }
            test.row(i < 10 ? 2 : 0, i % 2 == 0 ? MOST : -MOST, factors);
        }
        test.ask("whole", (s, r) -> differ(s.whole(3, true), r.whole(3, true)));
        return test;
    }
}
