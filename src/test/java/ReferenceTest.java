import java.util.ArrayList;
import java.util.List;
import java.util.Random;

/** Runs of made-up calls: RowSolver and the plain Reference must answer the same. The seeds are fixed. */
final class ReferenceTest {
    private static final int RUNS = Integer.getInteger("runs", 3000);
    private static final int MOST_CALLS = 512;
    private static final int[] EDGES = {0, 1, -1, 2, 3, 9, 10, 11, 12, 20001, -4, 1000000, 1000001, -1000000, -1000001,
        1000000000, 1000000001, -1000000000, -1000000001, Integer.MAX_VALUE, Integer.MIN_VALUE};

    private final Random random;
    private final RowSolver solver = new RowSolver();
    private final Reference reference = new Reference();
    private final List<String> calls = new ArrayList<>();
    private boolean wrong;
    private int n;

    private ReferenceTest(long seed) {
        random = new Random(seed);
    }

    public static void main(String[] args) {
        int failed = 0;
        int[] ends = new int[5];
        int base = Integer.getInteger("seed", 1);
        for (int run = 0; run < RUNS && failed < 3; run++) {
            ReferenceTest test = new ReferenceTest(base * 1_000_003L + run);
            test.play(run);
            ends[Math.max(0, test.solver.state(0))]++;
            if (test.wrong) {
                failed++;
                System.out.println("run " + run + ": " + String.join("; ", test.calls));
            }
        }
        System.out.println(RUNS + " runs; at their end not begun, going on, SAT, UNSAT, DEEP: "
                + java.util.Arrays.toString(ends) + "; failed: " + failed);
        System.exit(failed == 0 ? 0 : 1);
    }

    private int below(int bound) {
        return random.nextInt(bound);
    }

    private int edge() {
        return EDGES[below(EDGES.length)];
    }

    private int near(int size) {
        return below(2 * size + 1) - size;
    }

    private void check(String call, int got, int due) {
        calls.add(call + " = " + got);
        if (got != due) {
            wrong = true;
            calls.add("DUE " + due);
        }
    }

    private void play(int run) {
        if (below(10) == 0) {
            junk(below(20));
        }
        int problems = 1 + below(2);
        for (int p = 0; p < problems && !wrong && calls.size() < MOST_CALLS / 2; p++) {
            tell(run % 8);
            int left = 60 + below(60);
            if (below(3) == 0) {
                solve(20000);
            }
            while (left-- > 0 && calls.size() < MOST_CALLS - 40 && !wrong) {
                any();
            }
        }
    }

    private void tell(int style) {
        n = 1 + below(style == 3 || style == 6 ? 10 : 5);
        check("variables(" + n + ")", solver.variables(n), reference.variables(n));
        int rows = 1 + below(style == 3 || style == 6 ? 12 : 6);
        boolean boxed = style == 1 || style == 2 || style == 4;
        if (boxed && 2 * n < 12) {
            rows = Math.min(rows, 12 - 2 * n);
        }
        int size = style == 6 || style == 7 ? 1000000 : style == 5 ? 1000 : style == 4 ? 30 : 6;
        for (int i = 0; i < rows && !wrong; i++) {
            for (int x = 0; x < n; x++) {
                if (below(4) != 0) {
                    factor(x, style == 7 && below(2) == 0 ? 1000000 - below(3) : near(size));
                }
            }
            row(style == 2 ? 2 : below(3), near(Math.min(1000000, 3 * size)));
        }
        for (int x = 0; boxed && x < n; x++) {
            factor(x, 1);
            row(0, below(2 * size));
            factor(x, 1);
            row(1, -below(2 * size));
        }
        for (int x = 0; x < n; x++) {
            if (below(4) != 0) {
                whole(x, true);
            }
        }
    }

    private void factor(int x, int a) {
        check("factor(" + x + ", " + a + ")", solver.factor(x, a), reference.factor(x, a));
    }

    private void row(int kind, int b) {
        check("row(" + kind + ", " + b + ")", solver.row(kind, b), reference.row(kind, b));
    }

    private void whole(int x, boolean is) {
        check("whole(" + x + ", " + is + ")", solver.whole(x, is), reference.whole(x, is));
    }

    private void solve(int steps) {
        check("solve(" + steps + ")", solver.solve(steps), reference.solve(steps));
    }

    private void digits() {
        for (int side = 0; side < 2; side++) {
            int most = below(4) == 0 ? 11 : 2;
            for (int k = 0; k < most; k++) {
                check("digits(" + side + ", " + k + ")", solver.digits(side, k), reference.digits(side, k));
            }
        }
    }

    private void any() {
        int nodes = Math.max(1, reference.state(8));
        int k = below(nodes);
        int place = below(n + Math.max(1, reference.state(6)));
        switch (below(21)) {
            case 0, 1 -> solve(1 + below(below(2) == 0 ? 3 : 30));
            case 2 -> {
                int what = below(9);
                check("state(" + what + ")", solver.state(what), reference.state(what));
            }
            case 3 -> check("basic(" + place + ")", solver.basic(place), reference.basic(place));
            case 4, 5 -> {
                check("value(" + place + ")", solver.value(place), reference.value(place));
                digits();
            }
            case 6, 7 -> {
                int by = below(n + Math.max(1, reference.state(6)));
                check("told(" + place + ", " + by + ")", solver.told(place, by), reference.told(place, by));
                digits();
            }
            case 8 -> check("witness()", solver.witness(), reference.witness());
            case 9 -> setWitness(below(n), near(9), 1 + below(3));
            case 10, 11 -> check("judgeWitness()", solver.judgeWitness(), reference.judgeWitness());
            case 12, 13 -> {
                int what = below(6);
                check("node(" + k + ", " + what + ")", solver.node(k, what), reference.node(k, what));
            }
            case 14, 15 -> {
                int sort = below(3);
                int i = below(sort == 0 ? Math.max(1, reference.state(6)) : n);
                check("multiplier(" + k + ", " + sort + ", " + i + ")",
                        solver.multiplier(k, sort, i), reference.multiplier(k, sort, i));
                digits();
                if (below(6) == 0) {
                    setMultiplier(k, sort, i, near(5), 1 + below(4));
                }
            }
            case 16, 17 -> check("judgeTree()", solver.judgeTree(), reference.judgeTree());
            case 18 -> {
                if (below(4) == 0) {
                    setSplit(k, near(4));
                }
            }
            case 19 -> {
                if (below(2) == 0) {
                    int sort = below(3);
                    int i = below(sort == 0 ? Math.max(1, reference.state(6)) : n);
                    setMultiplier(nodes - 1, sort, i, near(2), 1);
                }
            }
            default -> {
                if (below(3) == 0) {
                    junk(1);
                }
            }
        }
    }

    private void setWitness(int x, int above, int down) {
        check("setWitness(" + x + ", " + above + ", " + down + ")",
                solver.setWitness(x, above, down), reference.setWitness(x, above, down));
    }

    private void setMultiplier(int k, int sort, int i, int above, int down) {
        check("setMultiplier(" + k + ", " + sort + ", " + i + ", " + above + ", " + down + ")",
                solver.setMultiplier(k, sort, i, above, down), reference.setMultiplier(k, sort, i, above, down));
    }

    private void setSplit(int k, int f) {
        check("setSplit(" + k + ", " + f + ")", solver.setSplit(k, f), reference.setSplit(k, f));
    }

    private void junk(int count) {
        for (int c = 0; c < count; c++) {
            int a = edge();
            int b = edge();
            int d = edge();
            switch (below(18)) {
                case 0 -> {
                    check("variables(" + a + ")", solver.variables(a), reference.variables(a));
                    n = Math.max(1, reference.state(7));
                }
                case 1 -> factor(a, b);
                case 2 -> row(a, b);
                case 3 -> whole(a, below(2) == 0);
                case 4 -> solve(below(4) == 0 ? a : -Math.abs(a));
                case 5 -> check("state(" + a + ")", solver.state(a), reference.state(a));
                case 6 -> check("basic(" + a + ")", solver.basic(a), reference.basic(a));
                case 7 -> check("value(" + a + ")", solver.value(a), reference.value(a));
                case 8 -> check("told(" + a + ", " + b + ")", solver.told(a, b), reference.told(a, b));
                case 9 -> check("digits(" + a + ", " + b + ")", solver.digits(a, b), reference.digits(a, b));
                case 10 -> check("witness()", solver.witness(), reference.witness());
                case 11 -> setWitness(a, b, d);
                case 12 -> check("judgeWitness()", solver.judgeWitness(), reference.judgeWitness());
                case 13 -> check("node(" + a + ", " + b + ")", solver.node(a, b), reference.node(a, b));
                case 14 -> check("multiplier(" + a + ", " + b + ", " + d + ")",
                        solver.multiplier(a, b, d), reference.multiplier(a, b, d));
                case 15 -> setMultiplier(a, below(4), below(12), edge(), edge());
                case 16 -> setSplit(a, b);
                default -> check("judgeTree()", solver.judgeTree(), reference.judgeTree());
            }
        }
    }
}
