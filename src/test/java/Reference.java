import java.math.BigInteger;
import java.util.ArrayList;
import java.util.Arrays;
import java.util.List;

/** The document's words once more, plainly, with the library's big numbers: what RowSolver is compared with. */
final class Reference {
    static final int BAD = -1, NONE = -2;
    static final BigInteger FAR = BigInteger.TEN.pow(18);

    record Ratio(BigInteger above, BigInteger below) implements Comparable<Ratio> {
        static final Ratio ZERO = of(0);

        static Ratio of(long number) {
            return new Ratio(BigInteger.valueOf(number), BigInteger.ONE);
        }

        static Ratio of(BigInteger above, BigInteger below) {
            BigInteger common = above.gcd(below);
            if (below.signum() < 0) {
                common = common.negate();
            }
            return new Ratio(above.divide(common), below.divide(common));
        }

        Ratio plus(Ratio o) {
            return of(above.multiply(o.below).add(o.above.multiply(below)), below.multiply(o.below));
        }

        Ratio times(Ratio o) {
            return of(above.multiply(o.above), below.multiply(o.below));
        }

        Ratio over(Ratio o) {
            return of(above.multiply(o.below), below.multiply(o.above));
        }

        Ratio minus() {
            return new Ratio(above.negate(), below);
        }

        int sign() {
            return above.signum();
        }

        boolean isWhole() {
            return below.equals(BigInteger.ONE);
        }

        BigInteger floor() {
            BigInteger[] parts = above.divideAndRemainder(below);
            return parts[1].signum() < 0 ? parts[0].subtract(BigInteger.ONE) : parts[0];
        }

        public int compareTo(Ratio o) {
            return above.multiply(o.below).compareTo(o.above.multiply(below));
        }
    }

    private static final class Row {
        int[] factors;
        int kind;
        int b;
    }

    private static final class Node {
        boolean split;
        boolean closed;
        int x;
        BigInteger told;
        BigInteger found;
        int first = NONE;
        int second = NONE;
        int above = NONE;
        Ratio[][] multipliers;
    }

    private static final class OpenSplit {
        int node;
        int x;
        BigInteger f;
        boolean secondSide;
        Ratio[] upperBefore;
        Ratio[] lowerBefore;
    }

    private int n;
    private int[] draft = new int[10];
    private boolean[] whole = new boolean[10];
    private final List<Row> rows = new ArrayList<>();
    private final Ratio[] witness = new Ratio[10];
    private Ratio hand;
    private int state, steps, exchanges, conflicts, splits;
    private boolean[] basic;
    private Ratio[] values;
    private Ratio[][] told;
    private Ratio[] upper, lower;
    private final List<OpenSplit> stack = new ArrayList<>();
    private final List<Node> nodes = new ArrayList<>();
    private int open;

    Reference() {
        Arrays.fill(witness, Ratio.ZERO);
    }

    private void nothingBegun() {
        state = 0;
        steps = exchanges = conflicts = splits = 0;
        stack.clear();
        nodes.clear();
    }

    int variables(int k) {
        if (k < 1 || k > 10) {
            return BAD;
        }
        n = k;
        draft = new int[10];
        whole = new boolean[10];
        rows.clear();
        nothingBegun();
        return n;
    }

    int factor(int x, int a) {
        if (x < 0 || x >= n || Math.abs((long) a) > 1000000) {
            return BAD;
        }
        draft[x] = a;
        return 0;
    }

    int row(int kind, int b) {
        if (n == 0 || kind < 0 || kind > 2 || Math.abs((long) b) > 1000000 || rows.size() == 12) {
            return BAD;
        }
        Row row = new Row();
        row.factors = draft;
        row.kind = kind;
        row.b = b;
        rows.add(row);
        draft = new int[10];
        nothingBegun();
        return rows.size() - 1;
    }

    int whole(int x, boolean is) {
        if (x < 0 || x >= n) {
            return BAD;
        }
        int was = whole[x] ? 1 : 0;
        whole[x] = is;
        nothingBegun();
        return was;
    }

    int solve(int most) {
        if (n == 0 || most < 1 || most > 20000) {
            return BAD;
        }
        if (state == 0) {
            begin();
        }
        int done = 0;
        while (done < most && state == 1) {
            step();
            done++;
            steps++;
        }
        return done;
    }

    private int places() {
        return n + rows.size();
    }

    private void begin() {
        int p = places();
        state = 1;
        basic = new boolean[p];
        values = new Ratio[p];
        upper = new Ratio[p];
        lower = new Ratio[p];
        told = new Ratio[p][p];
        Arrays.fill(values, Ratio.ZERO);
        for (Ratio[] line : told) {
            Arrays.fill(line, Ratio.ZERO);
        }
        for (int i = 0; i < rows.size(); i++) {
            Row row = rows.get(i);
            basic[n + i] = true;
            for (int x = 0; x < n; x++) {
                told[n + i][x] = Ratio.of(row.factors[x]);
            }
            upper[n + i] = row.kind == 1 ? null : Ratio.of(row.b);
            lower[n + i] = row.kind == 0 ? null : Ratio.of(row.b);
        }
        open = addLeaf(NONE);
    }

    private int addLeaf(int above) {
        Node leaf = new Node();
        leaf.above = above;
        leaf.multipliers = new Ratio[][] {new Ratio[rows.size()], new Ratio[n], new Ratio[n]};
        for (Ratio[] sort : leaf.multipliers) {
            Arrays.fill(sort, Ratio.ZERO);
        }
        nodes.add(leaf);
        return nodes.size() - 1;
    }

    private void follow() {
        for (int p = 0; p < places(); p++) {
            if (basic[p]) {
                Ratio sum = Ratio.ZERO;
                for (int q = 0; q < places(); q++) {
                    if (!basic[q]) {
                        sum = sum.plus(told[p][q].times(values[q]));
                    }
                }
                values[p] = sum;
            }
        }
    }

    private void step() {
        for (int b = 0; b < places(); b++) {
            if (basic[b] && lower[b] != null && values[b].compareTo(lower[b]) < 0) {
                repair(b, true);
                return;
            }
            if (basic[b] && upper[b] != null && values[b].compareTo(upper[b]) > 0) {
                repair(b, false);
                return;
            }
        }
        for (int x = 0; x < n; x++) {
            if (whole[x] && !values[x].isWhole()) {
                trySplit(x);
                return;
            }
        }
        state = 2;
    }

    private void repair(int b, boolean below) {
        for (int q = 0; q < places(); q++) {
            if (basic[q] || told[b][q].sign() == 0) {
                continue;
            }
            boolean up = (told[b][q].sign() > 0) == below;
            boolean free = up
                    ? upper[q] == null || values[q].compareTo(upper[q]) != 0
                    : lower[q] == null || values[q].compareTo(lower[q]) != 0;
            if (free) {
                exchange(b, q, below ? lower[b] : upper[b]);
                return;
            }
        }
        conflict(b, below);
    }

    private void exchange(int b, int q, Ratio bound) {
        exchanges++;
        Ratio a = told[b][q];
        Ratio[] line = new Ratio[places()];
        Arrays.fill(line, Ratio.ZERO);
        for (int k = 0; k < places(); k++) {
            if (!basic[k] && k != q) {
                line[k] = told[b][k].over(a).minus();
            }
        }
        line[b] = Ratio.of(1).over(a);
        for (int p = 0; p < places(); p++) {
            if (basic[p] && p != b) {
                Ratio by = told[p][q];
                told[p][q] = Ratio.ZERO;
                for (int k = 0; k < places(); k++) {
                    told[p][k] = told[p][k].plus(by.times(line[k]));
                }
            }
        }
        Arrays.fill(told[b], Ratio.ZERO);
        told[q] = line;
        basic[b] = false;
        basic[q] = true;
        values[b] = bound;
        follow();
    }

    private void setBound(Node leaf, int place, boolean ofUpper, Ratio multiplier) {
        if (place >= n) {
            leaf.multipliers[0][place - n] = multiplier;
        } else {
            leaf.multipliers[ofUpper ? 1 : 2][place] = multiplier;
        }
    }

    private void conflict(int b, boolean below) {
        conflicts++;
        Node leaf = nodes.get(open);
        leaf.closed = true;
        setBound(leaf, b, !below, Ratio.of(below ? -1 : 1));
        for (int q = 0; q < places(); q++) {
            Ratio a = told[b][q];
            if (!basic[q] && a.sign() != 0) {
                setBound(leaf, q, below == a.sign() > 0, below ? a : a.minus());
            }
        }
        int last = stack.size() - 1;
        while (last >= 0 && stack.get(last).secondSide) {
            last--;
        }
        if (last < 0) {
            state = 3;
            stack.clear();
            return;
        }
        while (stack.size() > last + 1) {
            stack.remove(stack.size() - 1);
        }
        OpenSplit split = stack.get(last);
        upper = split.upperBefore.clone();
        lower = split.lowerBefore.clone();
        split.secondSide = true;
        Ratio bound = Ratio.of(split.f.add(BigInteger.ONE), BigInteger.ONE);
        if (lower[split.x] == null || lower[split.x].compareTo(bound) < 0) {
            lower[split.x] = bound;
        }
        if (!basic[split.x] && values[split.x].compareTo(bound) < 0) {
            values[split.x] = bound;
            follow();
        }
        open = addLeaf(split.node);
        nodes.get(split.node).second = open;
    }

    private void trySplit(int x) {
        BigInteger f = values[x].floor();
        if (stack.size() == 24 || splits == 150 || f.abs().compareTo(FAR) > 0) {
            state = 4;
            return;
        }
        splits++;
        OpenSplit split = new OpenSplit();
        split.node = open;
        split.x = x;
        split.f = f;
        split.upperBefore = upper.clone();
        split.lowerBefore = lower.clone();
        stack.add(split);
        Ratio bound = Ratio.of(f, BigInteger.ONE);
        if (upper[x] == null || upper[x].compareTo(bound) > 0) {
            upper[x] = bound;
        }
        Node node = nodes.get(open);
        node.split = true;
        node.x = x;
        node.found = f;
        node.told = f;
        int at = open;
        open = addLeaf(at);
        node.first = open;
    }

    int state(int what) {
        int[] answers = {state, steps, exchanges, conflicts, splits, stack.size(), rows.size(), n, nodes.size()};
        return what < 0 || what >= answers.length ? BAD : answers[what];
    }

    private boolean has(int place) {
        return state != 0 && place >= 0 && place < places();
    }

    int basic(int place) {
        return has(place) ? basic[place] ? 1 : 0 : BAD;
    }

    int value(int place) {
        return has(place) ? take(values[place]) : -4;
    }

    int told(int place, int by) {
        return has(place) && has(by) && basic[place] && !basic[by] ? take(told[place][by]) : -4;
    }

    private int take(Ratio number) {
        hand = number;
        return number.sign();
    }

    int digits(int side, int k) {
        if (side < 0 || side > 1 || k < 0 || hand == null) {
            return BAD;
        }
        String text = (side == 0 ? hand.above.abs() : hand.below).toString();
        long end = text.length() - 9L * k;
        return end <= 0 ? 0 : Integer.parseInt(text.substring((int) Math.max(0, end - 9), (int) end));
    }

    int witness() {
        if (state != 2) {
            return BAD;
        }
        System.arraycopy(values, 0, witness, 0, n);
        return 0;
    }

    private static boolean isGiven(int above, int below) {
        return below >= 1 && below <= 1000000000 && Math.abs((long) above) <= 1000000000;
    }

    private static Ratio given(int above, int below) {
        return Ratio.of(BigInteger.valueOf(above), BigInteger.valueOf(below));
    }

    int setWitness(int x, int above, int below) {
        if (x < 0 || x >= n || !isGiven(above, below)) {
            return BAD;
        }
        witness[x] = given(above, below);
        return 0;
    }

    int judgeWitness() {
        if (n == 0) {
            return BAD;
        }
        for (int i = 0; i < rows.size(); i++) {
            Ratio sum = Ratio.of(-rows.get(i).b);
            for (int x = 0; x < n; x++) {
                sum = sum.plus(witness[x].times(Ratio.of(rows.get(i).factors[x])));
            }
            int kind = rows.get(i).kind;
            if (kind != 1 && sum.sign() > 0 || kind != 0 && sum.sign() < 0) {
                return 1 + i;
            }
        }
        for (int x = 0; x < n; x++) {
            if (whole[x] && !witness[x].isWhole()) {
                return 100 + x;
            }
        }
        return 0;
    }

    int node(int k, int what) {
        if (k < 0 || k >= nodes.size() || what < 0 || what > 5) {
            return -2100000000;
        }
        Node node = nodes.get(k);
        if (what == 5) {
            return node.above;
        }
        if (!node.split) {
            return what == 0 ? node.closed ? 1 : 2 : NONE;
        }
        BigInteger most = BigInteger.valueOf(2000000000);
        int[] answers = {0, node.x, node.told.max(most.negate()).min(most).intValue(), node.first, node.second};
        return answers[what];
    }

    private boolean hasMultiplier(int k, int sort, int i) {
        return k >= 0 && k < nodes.size() && !nodes.get(k).split && sort >= 0 && sort <= 2
                && i >= 0 && i < nodes.get(k).multipliers[sort].length;
    }

    int multiplier(int k, int sort, int i) {
        return hasMultiplier(k, sort, i) ? take(nodes.get(k).multipliers[sort][i]) : -4;
    }

    int setMultiplier(int k, int sort, int i, int above, int below) {
        if (!hasMultiplier(k, sort, i) || !isGiven(above, below)) {
            return BAD;
        }
        nodes.get(k).multipliers[sort][i] = given(above, below);
        return 0;
    }

    int setSplit(int k, int f) {
        if (k < 0 || k >= nodes.size() || !nodes.get(k).split || Math.abs((long) f) > 1000000000) {
            return BAD;
        }
        nodes.get(k).told = BigInteger.valueOf(f);
        return 0;
    }

    int judgeTree() {
        if (nodes.isEmpty()) {
            return BAD;
        }
        for (int k = 0; k < nodes.size(); k++) {
            Node node = nodes.get(k);
            boolean good = node.split ? whole[node.x] && node.first != NONE && node.second != NONE : isGoodLeaf(k);
            if (!good) {
                return 1 + k;
            }
        }
        return 0;
    }

    private boolean isGoodLeaf(int k) {
        Ratio[] most = new Ratio[n];
        Ratio[] least = new Ratio[n];
        for (int at = k; nodes.get(at).above != NONE; at = nodes.get(at).above) {
            Node split = nodes.get(nodes.get(at).above);
            Ratio f = Ratio.of(split.told, BigInteger.ONE);
            if (split.first == at) {
                most[split.x] = most[split.x] == null || most[split.x].compareTo(f) > 0 ? f : most[split.x];
            } else {
                f = f.plus(Ratio.of(1));
                least[split.x] = least[split.x] == null || least[split.x].compareTo(f) < 0 ? f : least[split.x];
            }
        }
        Ratio[][] m = nodes.get(k).multipliers;
        Ratio total = Ratio.ZERO;
        for (int i = 0; i < rows.size(); i++) {
            int kind = rows.get(i).kind;
            if (kind == 0 && m[0][i].sign() < 0 || kind == 1 && m[0][i].sign() > 0) {
                return false;
            }
            total = total.plus(m[0][i].times(Ratio.of(rows.get(i).b)));
        }
        for (int x = 0; x < n; x++) {
            if (m[1][x].sign() < 0 || m[2][x].sign() > 0) {
                return false;
            }
            if (m[1][x].sign() != 0 && most[x] == null || m[2][x].sign() != 0 && least[x] == null) {
                return false;
            }
            Ratio sum = m[1][x].plus(m[2][x]);
            for (int i = 0; i < rows.size(); i++) {
                sum = sum.plus(m[0][i].times(Ratio.of(rows.get(i).factors[x])));
            }
            if (sum.sign() != 0) {
                return false;
            }
            total = most[x] == null ? total : total.plus(m[1][x].times(most[x]));
            total = least[x] == null ? total : total.plus(m[2][x].times(least[x]));
        }
        return total.sign() < 0;
    }
}
