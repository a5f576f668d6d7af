import java.util.ArrayList;
import java.util.List;
import java.util.function.Supplier;
import java.util.function.ToIntFunction;

/**
 * Each call that is refused, at each stage: what it answers, and that nothing is changed by it. Of two objects of the same
 * calls the one gets the refused calls of a promise too; then both must answer all else alike.
 */
final class RefusedTest {
    private static final Check CHECK = new Check("RefusedTest");
    private static final int MIN = Integer.MIN_VALUE, MAX = Integer.MAX_VALUE;
    private static final int WIDE = 1_000_001, WIDER = 1_000_000_001;
    private static final int[] FRACTION_TOO_WIDE = {WIDER, -WIDER, MIN, MAX};
    private static final int[] NO_DENOMINATORS = {0, -1, WIDER, MIN, MAX};

    private record Call(String text, ToIntFunction<RowSolver> call, int due) {
    }

    /** What there is at a stage, asked of an object that is thrown away. */
    private record Size(int stage, int variables, int rows, int nodes, boolean atHand) {
    }

    public static void main(String[] args) {
        stage("a new one", RowSolver::new);
        stage("with variables", RefusedTest::withVariables);
        stage("told", RefusedTest::told);
        stage("full", RefusedTest::full);
        stage("going on", () -> begun(Problems.wedge(), 2));
        stage("on a second side", () -> begun(Problems.wedge(), 4));
        stage("SAT", () -> begun(Problems.open(), 20));
        stage("UNSAT", RefusedTest::unsat);
        stage("DEEP", () -> begun(Problems.far(1, 3), 20));
        CHECK.end();
    }

    private static RowSolver withVariables() {
        RowSolver solver = new RowSolver();
        solver.variables(2);
        solver.factor(0, 3);
        solver.setWitness(1, 1, 2);
        return solver;
    }

    private static RowSolver told() {
        RowSolver solver = Problems.wedge();
        solver.factor(1, 5);
        solver.setWitness(0, 1, 2);
        return solver;
    }

    private static RowSolver full() {
        RowSolver solver = new RowSolver();
        solver.variables(1);
        for (int i = 0; i < 12; i++) {
            solver.factor(0, 1);
            solver.row(i % 2, 0);
        }
        solver.whole(0, true);
        solver.solve(1);
        solver.value(12);
        return solver;
    }

    /** With a number at hand, a row that is being told, and a witness that was set. */
    private static RowSolver begun(RowSolver solver, int steps) {
        solver.solve(steps);
        solver.factor(0, -7);
        solver.setWitness(0, 7, 2);
        solver.value(1);
        return solver;
    }

    private static RowSolver unsat() {
        RowSolver solver = begun(Problems.wedge(), 20);
        solver.setSplit(0, 3);
        solver.setMultiplier(2, 1, 1, 5, 6);
        return solver;
    }

    private static void stage(String name, Supplier<RowSolver> maker) {
        RowSolver asked = maker.get();
        Size size = new Size(asked.state(0), asked.state(7), asked.state(6), asked.state(8), asked.digits(0, 0) >= 0);
        List<List<Call>> promises = List.of(variables(), factor(size), row(size), whole(size), solve(size), state(),
                basic(size), value(size), told(size, maker), digits(size), witness(size), setWitness(size),
                judgeWitness(size), node(size), multiplier(size, maker), setMultiplier(size, maker), setSplit(size, maker),
                judgeTree(size));
        for (int k = 0; k < promises.size(); k++) {
            String what = name + ", promise " + (k + 2);
            RowSolver solver = maker.get();
            for (Call call : promises.get(k)) {
                CHECK.due(what + ": " + call.text, call.call.applyAsInt(solver), call.due);
            }
            CHECK.due(what + ": nothing is changed", everything(solver), everything(maker.get()));
        }
    }

    /** All that can be asked, then all that comes to light by going on. */
    private static String everything(RowSolver solver) {
        StringBuilder text = new StringBuilder("hand " + solver.digits(0, 0) + "/" + solver.digits(1, 0));
        text.append("; ").append(Show.states(solver));
        text.append("; ").append(solver.judgeWitness()).append(" ").append(solver.judgeTree());
        boolean begun = solver.state(0) != 0;
        if (begun) {
            text.append("; ").append(Show.places(solver));
        }
        for (int k = 0; k < Math.min(4, solver.state(8)); k++) {
            text.append("; ").append(Show.node(solver, k)).append(" ").append(Show.leaf(solver, k));
        }
        int places = begun ? Math.min(5, solver.state(6) + solver.state(7)) : 0;
        for (int place = 0; place < places; place++) {
            for (int by = 0; by < places; by++) {
                int sign = solver.told(place, by);
                text.append(by == 0 ? "; " : " ").append(sign).append("*").append(solver.digits(0, 0));
            }
        }
        text.append("; ").append(solver.solve(20_000)).append(": ").append(Show.states(solver));
        text.append("; ").append(solver.judgeTree());
        text.append("; row ").append(solver.row(1, 9)).append(" ").append(solver.judgeWitness());
        text.append(" ").append(solver.solve(20_000)).append(" ").append(solver.value(0)).append(" ").append(solver.digits(0, 0));
        for (int x = 0; x < 3; x++) {
            text.append("; ").append(solver.whole(x, false));
        }
        return text.toString();
    }

    private static void add(List<Call> calls, String text, int due, ToIntFunction<RowSolver> call) {
        calls.add(new Call(text, call, due));
    }

    private static List<Call> variables() {
        List<Call> calls = new ArrayList<>();
        for (int n : new int[] {0, 11, -1, MIN, MAX}) {
            add(calls, "variables(" + n + ")", Check.BAD, s -> s.variables(n));
        }
        return calls;
    }

    /** Below 0, behind the last one, behind the most there can be. */
    private static int[] outside(int count, int most) {
        return new int[] {-1, count, most, MIN, MAX};
    }

    private static List<Call> factor(Size size) {
        List<Call> calls = new ArrayList<>();
        for (int x : outside(size.variables, 10)) {
            add(calls, "factor(" + x + ", 1)", Check.BAD, s -> s.factor(x, 1));
        }
        for (int a : new int[] {WIDE, -WIDE, MIN, MAX}) {
            add(calls, "factor(0, " + a + ")", Check.BAD, s -> s.factor(0, a));
            add(calls, "factor(1, " + a + ")", Check.BAD, s -> s.factor(1, a));
        }
        return calls;
    }

    private static List<Call> row(Size size) {
        List<Call> calls = new ArrayList<>();
        for (int kind : new int[] {-1, 3, MIN, MAX}) {
            add(calls, "row(" + kind + ", 0)", Check.BAD, s -> s.row(kind, 0));
        }
        for (int kind = 0; kind < 3; kind++) {
            int sort = kind;
            for (int b : new int[] {WIDE, -WIDE, MIN, MAX}) {
                add(calls, "row(" + kind + ", " + b + ")", Check.BAD, s -> s.row(sort, b));
            }
            if (size.variables == 0 || size.rows == 12) {
                add(calls, "row(" + kind + ", 0)", Check.BAD, s -> s.row(sort, 0));
            }
        }
        return calls;
    }

    private static List<Call> whole(Size size) {
        List<Call> calls = new ArrayList<>();
        for (int x : outside(size.variables, 10)) {
            add(calls, "whole(" + x + ", true)", Check.BAD, s -> s.whole(x, true));
            add(calls, "whole(" + x + ", false)", Check.BAD, s -> s.whole(x, false));
        }
        return calls;
    }

    private static List<Call> solve(Size size) {
        List<Call> calls = new ArrayList<>();
        for (int n : new int[] {0, -1, 20_001, MIN, MAX}) {
            add(calls, "solve(" + n + ")", Check.BAD, s -> s.solve(n));
        }
        if (size.variables == 0) {
            add(calls, "solve(1)", Check.BAD, s -> s.solve(1));
            add(calls, "solve(20000)", Check.BAD, s -> s.solve(20_000));
        }
        if (size.stage >= 2) {
            add(calls, "solve(1) when it has ended", 0, s -> s.solve(1));
        }
        return calls;
    }

    private static List<Call> state() {
        List<Call> calls = new ArrayList<>();
        for (int what : new int[] {-1, 9, MIN, MAX}) {
            add(calls, "state(" + what + ")", Check.BAD, s -> s.state(what));
        }
        return calls;
    }

    private static List<Call> basic(Size size) {
        List<Call> calls = new ArrayList<>();
        for (int place : outside(size.variables + size.rows, 22)) {
            add(calls, "basic(" + place + ")", Check.BAD, s -> s.basic(place));
        }
        if (size.stage == 0) {
            add(calls, "basic(0)", Check.BAD, s -> s.basic(0));
        }
        return calls;
    }

    private static List<Call> value(Size size) {
        List<Call> calls = new ArrayList<>();
        for (int place : outside(size.variables + size.rows, 22)) {
            add(calls, "value(" + place + ")", Check.NO_NUMBER, s -> s.value(place));
        }
        if (size.stage == 0) {
            add(calls, "value(0)", Check.NO_NUMBER, s -> s.value(0));
        }
        return calls;
    }

    private static List<Call> told(Size size, Supplier<RowSolver> maker) {
        List<Call> calls = new ArrayList<>();
        RowSolver asked = maker.get();
        int places = size.variables + size.rows;
        for (int p = 0; p < places; p++) {
            int place = p;
            for (int out : outside(places, 22)) {
                add(calls, "told(" + out + ", " + p + ")", Check.NO_NUMBER, s -> s.told(out, place));
                add(calls, "told(" + p + ", " + out + ")", Check.NO_NUMBER, s -> s.told(place, out));
            }
            for (int q = 0; q < Math.min(6, places); q++) {
                int by = q;
                if (asked.basic(p) != 1 || asked.basic(q) != 0) {
                    add(calls, "told(" + p + ", " + q + ")", Check.NO_NUMBER, s -> s.told(place, by));
                }
            }
        }
        return calls;
    }

    private static List<Call> digits(Size size) {
        List<Call> calls = new ArrayList<>();
        for (int side : new int[] {-1, 2, MIN, MAX}) {
            add(calls, "digits(" + side + ", 0)", Check.BAD, s -> s.digits(side, 0));
        }
        for (int k : new int[] {-1, MIN}) {
            add(calls, "digits(0, " + k + ")", Check.BAD, s -> s.digits(0, k));
            add(calls, "digits(1, " + k + ")", Check.BAD, s -> s.digits(1, k));
        }
        if (!size.atHand) {
            add(calls, "digits(0, 0)", Check.BAD, s -> s.digits(0, 0));
            add(calls, "digits(1, 9)", Check.BAD, s -> s.digits(1, 9));
        }
        return calls;
    }

    private static List<Call> witness(Size size) {
        List<Call> calls = new ArrayList<>();
        if (size.stage != 2) {
            add(calls, "witness()", Check.BAD, RowSolver::witness);
        }
        return calls;
    }

    private static List<Call> setWitness(Size size) {
        List<Call> calls = new ArrayList<>();
        for (int x : outside(size.variables, 10)) {
            add(calls, "setWitness(" + x + ", 1, 1)", Check.BAD, s -> s.setWitness(x, 1, 1));
        }
        for (int above : FRACTION_TOO_WIDE) {
            add(calls, "setWitness(0, " + above + ", 1)", Check.BAD, s -> s.setWitness(0, above, 1));
        }
        for (int below : NO_DENOMINATORS) {
            add(calls, "setWitness(0, 1, " + below + ")", Check.BAD, s -> s.setWitness(0, 1, below));
        }
        return calls;
    }

    private static List<Call> judgeWitness(Size size) {
        List<Call> calls = new ArrayList<>();
        if (size.variables == 0) {
            add(calls, "judgeWitness()", Check.BAD, RowSolver::judgeWitness);
        }
        return calls;
    }

    private static List<Call> node(Size size) {
        List<Call> calls = new ArrayList<>();
        for (int k : outside(size.nodes, 301)) {
            add(calls, "node(" + k + ", 0)", Check.NO_NODE, s -> s.node(k, 0));
            add(calls, "node(" + k + ", 5)", Check.NO_NODE, s -> s.node(k, 5));
        }
        for (int what : new int[] {-1, 6, MIN, MAX}) {
            add(calls, "node(0, " + what + ")", Check.NO_NODE, s -> s.node(0, what));
        }
        return calls;
    }

    /** Node, sort and number of multipliers that are none. */
    private static List<int[]> noMultipliers(Size size, Supplier<RowSolver> maker) {
        List<int[]> none = new ArrayList<>();
        RowSolver asked = maker.get();
        for (int k : outside(size.nodes, 301)) {
            none.add(new int[] {k, 0, 0});
            none.add(new int[] {k, 2, 0});
        }
        for (int k = 0; k < size.nodes; k++) {
            for (int sort = 0; sort < 3; sort++) {
                if (asked.node(k, 0) == 0) {
                    none.add(new int[] {k, sort, 0});
                }
                for (int i : outside(sort == 0 ? size.rows : size.variables, sort == 0 ? 12 : 10)) {
                    none.add(new int[] {k, sort, i});
                }
            }
            for (int sort : new int[] {-1, 3, MIN, MAX}) {
                none.add(new int[] {k, sort, 0});
            }
        }
        return none;
    }

    private static List<Call> multiplier(Size size, Supplier<RowSolver> maker) {
        List<Call> calls = new ArrayList<>();
        for (int[] one : noMultipliers(size, maker)) {
            add(calls, "multiplier(" + one[0] + ", " + one[1] + ", " + one[2] + ")", Check.NO_NUMBER,
                    s -> s.multiplier(one[0], one[1], one[2]));
        }
        return calls;
    }

    private static List<Call> setMultiplier(Size size, Supplier<RowSolver> maker) {
        List<Call> calls = new ArrayList<>();
        for (int[] one : noMultipliers(size, maker)) {
            add(calls, "setMultiplier(" + one[0] + ", " + one[1] + ", " + one[2] + ", 1, 1)", Check.BAD,
                    s -> s.setMultiplier(one[0], one[1], one[2], 1, 1));
        }
        for (int k = 0; k < size.nodes; k++) {
            int node = k;
            for (int s0 = 0; s0 < 3; s0++) {
                int sort = s0;
                for (int above : FRACTION_TOO_WIDE) {
                    add(calls, "setMultiplier(" + k + ", " + sort + ", 0, " + above + ", 1)", Check.BAD,
                            s -> s.setMultiplier(node, sort, 0, above, 1));
                }
                for (int below : NO_DENOMINATORS) {
                    add(calls, "setMultiplier(" + k + ", " + sort + ", 0, 1, " + below + ")", Check.BAD,
                            s -> s.setMultiplier(node, sort, 0, 1, below));
                }
            }
        }
        return calls;
    }

    private static List<Call> setSplit(Size size, Supplier<RowSolver> maker) {
        List<Call> calls = new ArrayList<>();
        RowSolver asked = maker.get();
        for (int k : outside(size.nodes, 301)) {
            add(calls, "setSplit(" + k + ", 1)", Check.BAD, s -> s.setSplit(k, 1));
        }
        for (int k = 0; k < size.nodes; k++) {
            int node = k;
            if (asked.node(k, 0) != 0) {
                add(calls, "setSplit(" + k + ", 1)", Check.BAD, s -> s.setSplit(node, 1));
            }
            for (int f : FRACTION_TOO_WIDE) {
                add(calls, "setSplit(" + k + ", " + f + ")", Check.BAD, s -> s.setSplit(node, f));
            }
        }
        return calls;
    }

    private static List<Call> judgeTree(Size size) {
        List<Call> calls = new ArrayList<>();
        if (size.nodes == 0) {
            add(calls, "judgeTree()", Check.BAD, RowSolver::judgeTree);
        }
        return calls;
    }
}
