/** A solver of rows of whole factors; the document tells its promises, README.md how to use it. */
public final class RowSolver {
    public static final int BAD = -1, NONE = -2;

    private static final int MOST_VARIABLES = 10;
    private static final int MOST_ROWS = 12;
    private static final int MOST_PLACES = MOST_VARIABLES + MOST_ROWS;
    private static final int MOST_FACTOR = 1_000_000;
    private static final int MOST_STEPS = 20_000;
    private static final int MOST_OPEN = 24;
    private static final int MOST_SPLITS = 150;
    private static final int MOST_NODES = 2 * MOST_SPLITS + 1;
    private static final int MOST_LEAVES = MOST_SPLITS + 1;
    private static final long MOST_SPLIT = 1_000_000_000_000_000_000L;
    private static final long TOO_FAR = 4 * MOST_SPLIT;
    private static final int MOST_GIVEN = 1_000_000_000;
    private static final int MOST_TOLD = 2_000_000_000;
    private static final int NO_NUMBER = -4;
    private static final int NO_NODE = -2_100_000_000;
    private static final int NOT_WHOLE = 100;

    private static final int AT_MOST = 0, AT_LEAST = 1, EQUAL = 2;
    private static final int NOT_BEGUN = 0, GOES_ON = 1, SAT = 2, UNSAT = 3, DEEP = 4;
    private static final int OF_ROWS = 0, OF_UPPERS = 1, OF_LOWERS = 2;

    /* A leaf keeps the multipliers of all rows, then of all upper bounds, then of all lower ones. */
    private static final int FIRST_UPPER = MOST_ROWS;
    private static final int FIRST_LOWER = FIRST_UPPER + MOST_VARIABLES;
    private static final int MULTIPLIERS = FIRST_LOWER + MOST_VARIABLES;

    /*
     * Numbers have nine digits a limb. A cell is a minor of at most ten rows, so at most 10^65 (by Hadamard), and
     * an amount is the sum of ten cells times values of at most 10^18 + 1. Of the 32 parts that a judge sums up, 11
     * may be cells, the others are given with nine digits: over the product of all that is below, it needs less
     * than 10^1000.
     */
    private static final int BASE = 1_000_000_000;
    private static final int CELL_ROOM = 8;
    private static final int AMOUNT_ROOM = 12;
    private static final int WIDE_ROOM = 128;
    private static final int MOST_TURNS = 1_000_000;

    private final Rows rows = new Rows();
    private final Division division = new Division();
    private final Sum sum = new Sum();
    private final Tableau tableau = new Tableau(sum, division);
    private final Tree tree = new Tree();
    private final Solving solving = new Solving(rows, tableau, tree);
    private final Judge judge = new Judge(rows, tree, sum, division);
    private final Fraction[] witness = new Fraction[MOST_VARIABLES];
    private final Fraction hand = new Fraction(AMOUNT_ROOM);
    private boolean atHand;

    public RowSolver() {
        for (int x = 0; x < witness.length; x++) {
            witness[x] = new Fraction(AMOUNT_ROOM);
        }
    }

    public int variables(int n) {
        if (n < 1 || n > MOST_VARIABLES) {
            return BAD;
        }
        rows.renew(n);
        solving.forget();
        return n;
    }

    public int factor(int x, int a) {
        if (!rows.hasVariable(x) || a < -MOST_FACTOR || a > MOST_FACTOR) {
            return BAD;
        }
        rows.draft[x] = a;
        return 0;
    }

    public int row(int kind, int b) {
        if (rows.variables == 0 || rows.count >= MOST_ROWS) {
            return BAD;
        }
        if (kind < AT_MOST || kind > EQUAL || b < -MOST_FACTOR || b > MOST_FACTOR) {
            return BAD;
        }
        solving.forget();
        return rows.endDraft(kind, b);
    }

    public int whole(int x, boolean is) {
        if (!rows.hasVariable(x)) {
            return BAD;
        }
        int was = rows.isWhole[x] ? 1 : 0;
        rows.isWhole[x] = is;
        solving.forget();
        return was;
    }

    public int solve(int n) {
        if (rows.variables == 0 || n < 1 || n > MOST_STEPS) {
            return BAD;
        }
        if (solving.stage == NOT_BEGUN) {
            solving.begin();
        }
        int done = 0;
        while (done < n && solving.stage == GOES_ON) {
            solving.doStep();
            done++;
        }
        return done;
    }

    public int state(int what) {
        switch (what) {
            case 0: return solving.stage;
            case 1: return solving.steps;
            case 2: return solving.exchanges;
            case 3: return solving.conflicts;
            case 4: return solving.splits;
            case 5: return tree.splitsAbove(tree.open);
            case 6: return rows.count;
            case 7: return rows.variables;
            case 8: return tree.count;
            default: return BAD;
        }
    }

    public int basic(int place) {
        if (!hasPlace(place)) {
            return BAD;
        }
        return tableau.rowOf(place) >= 0 ? 1 : 0;
    }

    public int value(int place) {
        if (!hasPlace(place)) {
            return NO_NUMBER;
        }
        tableau.copyValue(place, hand);
        return takeToHand();
    }

    public int told(int place, int by) {
        if (!hasPlace(place) || !hasPlace(by)) {
            return NO_NUMBER;
        }
        int row = tableau.rowOf(place);
        int column = tableau.columnOf(by);
        if (row < 0 || column < 0) {
            return NO_NUMBER;
        }
        hand.setQuotient(tableau.cell(row, column), tableau.common, 1);
        return takeToHand();
    }

    public int digits(int side, int k) {
        if (side < 0 || side > 1 || k < 0 || !atHand) {
            return BAD;
        }
        return side == 0 ? hand.above.limbAt(k) : hand.below.limbAt(k);
    }

    public int witness() {
        if (solving.stage != SAT) {
            return BAD;
        }
        for (int x = 0; x < rows.variables && x < witness.length; x++) {
            tableau.copyValue(x, witness[x]);
        }
        return 0;
    }

    public int setWitness(int x, int above, int below) {
        if (!rows.hasVariable(x) || x >= witness.length || !isGiven(above, below)) {
            return BAD;
        }
        witness[x].setSmall(above, below);
        return 0;
    }

    public int judgeWitness() {
        if (rows.variables == 0) {
            return BAD;
        }
        int row = judge.firstBrokenRow(witness);
        if (row >= 0) {
            return 1 + row;
        }
        int x = judge.firstBrokenVariable(witness);
        return x >= 0 ? NOT_WHOLE + x : 0;
    }

    public int node(int k, int what) {
        if (!tree.has(k)) {
            return NO_NODE;
        }
        boolean split = tree.isSplit(k);
        switch (what) {
            case 0: return split ? 0 : tree.closed[k] ? 1 : 2;
            case 1: return split ? tree.variable[k] : NONE;
            case 2: return split ? (int) Math.max(-MOST_TOLD, Math.min(MOST_TOLD, tree.toldAt[k])) : NONE;
            case 3: return split ? tree.first[k] : NONE;
            case 4: return split ? tree.second[k] : NONE;
            case 5: return tree.above[k];
            default: return NO_NODE;
        }
    }

    public int multiplier(int k, int sort, int i) {
        Fraction found = multiplierAt(k, sort, i);
        if (found == null) {
            return NO_NUMBER;
        }
        hand.setQuotient(found.above, found.below, 1);
        return takeToHand();
    }

    public int setMultiplier(int k, int sort, int i, int above, int below) {
        Fraction found = multiplierAt(k, sort, i);
        if (found == null || !isGiven(above, below)) {
            return BAD;
        }
        found.setSmall(above, below);
        return 0;
    }

    public int setSplit(int k, int f) {
        if (!tree.has(k) || !tree.isSplit(k) || f < -MOST_GIVEN || f > MOST_GIVEN) {
            return BAD;
        }
        tree.toldAt[k] = f;
        return 0;
    }

    public int judgeTree() {
        if (tree.count == 0) {
            return BAD;
        }
        for (int k = 0; k < tree.count; k++) {
            if (!judge.isGood(k)) {
                return 1 + k;
            }
        }
        return 0;
    }

    private boolean hasPlace(int place) {
        return solving.stage != NOT_BEGUN && place >= 0 && place < rows.variables + rows.count;
    }

    private int takeToHand() {
        division.reduce(hand);
        atHand = true;
        return hand.above.sign;
    }

    private static boolean isGiven(int above, int below) {
        return above >= -MOST_GIVEN && above <= MOST_GIVEN && below >= 1 && below <= MOST_GIVEN;
    }

    private Fraction multiplierAt(int k, int sort, int i) {
        Leaf leaf = tree.leafOf(k);
        if (leaf == null) {
            return null;
        }
        if (sort == OF_ROWS) {
            return rows.hasRow(i) ? leaf.parts[i] : null;
        }
        if (!rows.hasVariable(i)) {
            return null;
        }
        if (sort == OF_UPPERS) {
            return leaf.parts[FIRST_UPPER + i];
        }
        return sort == OF_LOWERS ? leaf.parts[FIRST_LOWER + i] : null;
    }

    /** A whole number, the lowest limb first, in room that is made once; 0 has no limbs. */
    private static final class Big {
        final int[] limbs;
        int length;
        int sign;

        Big(int room) {
            limbs = new int[room > 0 ? room : 1];
        }

        void setLong(long number) {
            sign = number > 0 ? 1 : number < 0 ? -1 : 0;
            length = 0;
            long rest = number;
            for (int k = 0; k < limbs.length && rest != 0; k++) {
                limbs[k] = sign * (int) (rest % BASE);
                rest /= BASE;
                length = k + 1;
            }
        }

        void set(Big other, int turn) {
            length = Math.min(other.length, limbs.length);
            for (int k = 0; k < length; k++) {
                limbs[k] = other.limbs[k];
            }
            sign = other.sign * turn;
        }

        int limbAt(int k) {
            return k >= 0 && k < length ? limbs[k] : 0;
        }

        boolean isSmall() {
            return length <= 1;
        }

        /** The number itself, where isSmall. */
        long small() {
            return length == 0 ? 0L : (long) sign * limbs[0];
        }

        boolean isOne() {
            return length == 1 && limbs[0] == 1 && sign > 0;
        }

        /** Its low two limbs without the sign. */
        long lowPair() {
            return (long) limbAt(1) * BASE + limbAt(0);
        }

        int compareSize(Big other) {
            if (length != other.length) {
                return length < other.length ? -1 : 1;
            }
            for (int k = length - 1; k >= 0; k--) {
                if (limbs[k] != other.limbs[k]) {
                    return limbs[k] < other.limbs[k] ? -1 : 1;
                }
            }
            return 0;
        }
    }

    /** A fraction that need not be reduced; what is below is above 0. */
    private static final class Fraction {
        final Big above;
        final Big below;

        Fraction(int room) {
            above = new Big(room);
            below = new Big(room);
            below.setLong(1);
        }

        void setSmall(long newAbove, long newBelow) {
            above.setLong(newAbove);
            below.setLong(newBelow);
        }

        void setQuotient(Big newAbove, Big newBelow, int turn) {
            above.set(newAbove, turn);
            below.set(newBelow, 1);
        }
    }

    /** A sum of products. Its limbs may bear different signs until it is stored: the highest tells the sum's own. */
    private static final class Sum {
        private final long[] limbs = new long[WIDE_ROOM];
        private int used;

        void clear() {
            for (int k = 0; k < used; k++) {
                limbs[k] = 0;
            }
            used = 0;
        }

        void addTimes(Big part, long times) {
            long rest = times * part.sign;
            for (int shift = 0; shift < 3 && rest != 0; shift++) {
                addShifted(part, rest % BASE, shift);
                rest /= BASE;
            }
        }

        void addProduct(Big one, Big other, int turn) {
            long sign = turn * one.sign * other.sign;
            if (sign == 0) {
                return;
            }
            for (int shift = 0; shift < other.length; shift++) {
                addShifted(one, sign * other.limbs[shift], shift);
            }
        }

        private void addShifted(Big part, long times, int shift) {
            if (times == 0) {
                return;
            }
            long carry = 0;
            int at = shift;
            for (int k = 0; k < part.length && at < limbs.length; k++) {
                long now = limbs[at] + times * part.limbs[k] + carry;
                carry = now / BASE;
                limbs[at] = now - carry * BASE;
                at++;
            }
            while (carry != 0 && at < limbs.length) {
                long now = limbs[at] + carry;
                carry = now / BASE;
                limbs[at] = now - carry * BASE;
                at++;
            }
            if (at > used) {
                used = at;
            }
        }

        int signNow() {
            for (int k = used - 1; k >= 0; k--) {
                if (limbs[k] != 0) {
                    return limbs[k] > 0 ? 1 : -1;
                }
            }
            return 0;
        }

        void store(Big target) {
            int sign = signNow();
            long borrow = 0;
            int length = 0;
            for (int k = 0; k < used && k < target.limbs.length; k++) {
                long limb = sign * limbs[k] - borrow;
                borrow = limb < 0 ? 1 : 0;
                limb += borrow * BASE;
                target.limbs[k] = (int) limb;
                if (limb != 0) {
                    length = k + 1;
                }
            }
            target.length = length;
            target.sign = length == 0 ? 0 : sign;
        }
    }

    /** Divides whole numbers without their signs, limb by limb from the highest. */
    private static final class Division {
        final Big quotient = new Big(WIDE_ROOM);
        final Big rest = new Big(WIDE_ROOM);
        private final Big left = new Big(WIDE_ROOM);
        private final Big right = new Big(WIDE_ROOM);
        private final long[] work = new long[WIDE_ROOM + 1];
        private final long[] scaled = new long[WIDE_ROOM];

        void divide(Big number, Big by) {
            quotient.setLong(0);
            rest.setLong(0);
            if (by.length == 0 || number.compareSize(by) < 0) {
                rest.set(number, number.sign);
            } else if (by.length == 1) {
                divideByLimb(number, by.limbs[0]);
            } else {
                divideByLimbs(number, by);
            }
        }

        private void divideByLimb(Big number, long by) {
            if (by <= 0) {
                return;
            }
            long over = 0;
            for (int k = Math.min(number.length, quotient.limbs.length) - 1; k >= 0; k--) {
                long now = over * BASE + number.limbs[k];
                long digit = now / by;
                quotient.limbs[k] = (int) digit;
                over = now - digit * by;
            }
            trim(quotient, number.length);
            rest.setLong(over);
        }

        private void divideByLimbs(Big number, Big by) {
            int size = by.length;
            int top = number.length - size;
            // A high limb of at least half the base keeps each guess at most two too high.
            long scale = BASE / (by.limbs[size - 1] + 1L);
            scaleInto(work, number, scale);
            scaleInto(scaled, by, scale);
            for (int at = top; at >= 0; at--) {
                quotient.limbs[at] = (int) takeAway(at, size, guessDigit(at, size));
            }
            trim(quotient, top + 1);
            long over = 0;
            for (int k = size - 1; k >= 0 && scale > 0; k--) {
                long now = over * BASE + work[k];
                rest.limbs[k] = (int) (now / scale);
                over = now % scale;
            }
            trim(rest, size);
        }

        private static void scaleInto(long[] target, Big number, long scale) {
            long carry = 0;
            for (int k = 0; k < number.length && k < target.length; k++) {
                long now = number.limbs[k] * scale + carry;
                carry = now / BASE;
                target[k] = now - carry * BASE;
            }
            if (number.length < target.length) {
                target[number.length] = carry;
            }
        }

        private long guessDigit(int at, int size) {
            long high = scaled[size - 1];
            if (high <= 0) {
                return 0;
            }
            long now = work[at + size] * BASE + work[at + size - 1];
            long guess = now / high;
            long over = now - guess * high;
            for (int turn = 0; turn < 2 && over < BASE; turn++) {
                if (guess < BASE && guess * scaled[size - 2] <= over * BASE + work[at + size - 2]) {
                    break;
                }
                guess--;
                over += high;
            }
            return guess;
        }

        private long takeAway(int at, int size, long digit) {
            long borrow = 0;
            for (int k = 0; k < size; k++) {
                long now = work[at + k] - digit * scaled[k] - borrow;
                borrow = now < 0 ? (BASE - 1 - now) / BASE : 0;
                work[at + k] = now + borrow * BASE;
            }
            work[at + size] -= borrow;
            if (work[at + size] >= 0) {
                return digit;
            }
            long carry = 0;
            for (int k = 0; k < size; k++) {
                long now = work[at + k] + scaled[k] + carry;
                carry = now >= BASE ? 1 : 0;
                work[at + k] = now - carry * BASE;
            }
            work[at + size] += carry;
            return digit - 1;
        }

        private static void trim(Big number, int most) {
            int length = Math.min(most, number.limbs.length);
            while (length > 0 && number.limbs[length - 1] == 0) {
                length--;
            }
            number.length = length;
            number.sign = length == 0 ? 0 : 1;
        }

        void reduce(Fraction fraction) {
            if (fraction.above.sign == 0) {
                fraction.below.setLong(1);
                return;
            }
            if (fraction.below.isOne()) {
                return;
            }
            Big common = commonDivisor(fraction.above, fraction.below);
            if (common.isOne()) {
                return;
            }
            left.set(common, 1);
            divide(fraction.above, left);
            fraction.above.set(quotient, fraction.above.sign);
            divide(fraction.below, left);
            fraction.below.set(quotient, 1);
        }

        private Big commonDivisor(Big one, Big other) {
            Big greater = left;
            Big less = right;
            greater.set(one, one.sign);
            less.set(other, 1);
            for (int turn = 0; turn < MOST_TURNS && less.length > 0; turn++) {
                if (greater.length <= 2 && less.length <= 2) {
                    greater.setLong(smallDivisor(greater.lowPair(), less.lowPair()));
                    return greater;
                }
                divide(greater, less);
                greater.set(rest, 1);
                Big swap = greater;
                greater = less;
                less = swap;
            }
            return greater;
        }

        private static long smallDivisor(long one, long other) {
            long greater = one;
            long less = other;
            for (int turn = 0; turn < MOST_TURNS && less != 0; turn++) {
                long over = greater % less;
                greater = less;
                less = over;
            }
            return greater;
        }
    }

    /** The rows as they were told, and the one that is being told. */
    private static final class Rows {
        final int[][] factors = new int[MOST_ROWS][MOST_VARIABLES];
        final int[] kinds = new int[MOST_ROWS];
        final int[] numbers = new int[MOST_ROWS];
        final boolean[] isWhole = new boolean[MOST_VARIABLES];
        final int[] draft = new int[MOST_VARIABLES];
        int variables;
        int count;

        void renew(int newVariables) {
            variables = newVariables;
            count = 0;
            for (int x = 0; x < MOST_VARIABLES; x++) {
                isWhole[x] = false;
                draft[x] = 0;
            }
        }

        boolean hasVariable(int x) {
            return x >= 0 && x < variables;
        }

        boolean hasRow(int i) {
            return i >= 0 && i < count;
        }

        int endDraft(int kind, int number) {
            int ended = count;
            for (int x = 0; x < MOST_VARIABLES; x++) {
                factors[ended][x] = draft[x];
                draft[x] = 0;
            }
            kinds[ended] = kind;
            numbers[ended] = number;
            count++;
            return ended;
        }
    }

    /**
     * Tells each basic place by those that are not: all cells, and the amounts, which are the basic values, are to
     * be divided by one common number above 0, so that they stay whole and small however many exchanges there are.
     */
    private static final class Tableau {
        private final Sum sum;
        private final Division division;
        private final Big[] cells = new Big[MOST_ROWS * MOST_VARIABLES];
        private final Big[] amounts = new Big[MOST_ROWS];
        final long[] resting = new long[MOST_VARIABLES];
        final int[] rowPlaces = new int[MOST_ROWS];
        final int[] columnPlaces = new int[MOST_VARIABLES];
        private final int[] linesOf = new int[MOST_PLACES];
        private final boolean[] isBasic = new boolean[MOST_PLACES];
        final Big common = new Big(CELL_ROOM);
        private final Big miss = new Big(AMOUNT_ROOM);
        private final Big kept = new Big(CELL_ROOM);
        private final Big wide = new Big(WIDE_ROOM);
        private int rowCount;
        private int columnCount;

        Tableau(Sum sum, Division division) {
            this.sum = sum;
            this.division = division;
            for (int k = 0; k < cells.length; k++) {
                cells[k] = new Big(CELL_ROOM);
            }
            for (int row = 0; row < amounts.length; row++) {
                amounts[row] = new Big(AMOUNT_ROOM);
            }
        }

        void begin(Rows rows) {
            rowCount = rows.count;
            columnCount = rows.variables;
            common.setLong(1);
            for (int column = 0; column < columnCount; column++) {
                resting[column] = 0;
                seatColumn(column, column);
            }
            for (int row = 0; row < rowCount; row++) {
                amounts[row].setLong(0);
                seatRow(row, columnCount + row);
                for (int column = 0; column < columnCount; column++) {
                    cell(row, column).setLong(rows.factors[row][column]);
                }
            }
        }

        private void seatRow(int row, int place) {
            rowPlaces[row] = place;
            linesOf[place] = row;
            isBasic[place] = true;
        }

        private void seatColumn(int column, int place) {
            columnPlaces[column] = place;
            linesOf[place] = column;
            isBasic[place] = false;
        }

        Big cell(int row, int column) {
            return cells[row * MOST_VARIABLES + column];
        }

        int places() {
            return columnCount + rowCount;
        }

        int rowOf(int place) {
            return isBasic[place] ? linesOf[place] : NONE;
        }

        int columnOf(int place) {
            return isBasic[place] ? NONE : linesOf[place];
        }

        void copyValue(int place, Fraction target) {
            int row = rowOf(place);
            if (row >= 0) {
                target.setQuotient(amounts[row], common, 1);
            } else {
                target.setSmall(resting[linesOf[place]], 1);
            }
        }

        /** The sign of how far a row's amount is above a bound; the sum is left, to be divided by the common number. */
        int compareAmount(int row, long bound) {
            sum.clear();
            sum.addTimes(amounts[row], 1);
            sum.addTimes(common, -bound);
            return sum.signNow();
        }

        /** The row's place leaves and becomes the bound, the column's place becomes basic. */
        void exchange(int row, int column, long bound) {
            Big pivot = cell(row, column);
            compareAmount(row, bound);
            sum.store(miss);
            for (int other = 0; other < rowCount; other++) {
                if (other == row) {
                    continue;
                }
                Big side = cell(other, column);
                for (int k = 0; k < columnCount; k++) {
                    if (k != column) {
                        cross(cell(other, k), pivot, side, cell(row, k));
                    }
                }
                cross(amounts[other], pivot, side, miss);
                side.sign *= pivot.sign;
            }
            turnRow(row, column);
            resting[column] = bound;
            int leaving = rowPlaces[row];
            seatRow(row, columnPlaces[column]);
            seatColumn(column, leaving);
        }

        /** Tells the column's place by the row's, and makes the pivot what all is to be divided by. */
        private void turnRow(int row, int column) {
            Big pivot = cell(row, column);
            int turn = pivot.sign;
            sum.clear();
            sum.addTimes(pivot, turn * resting[column]);
            sum.addTimes(miss, -turn);
            sum.store(amounts[row]);
            for (int k = 0; k < columnCount; k++) {
                if (k != column) {
                    cell(row, k).sign *= -turn;
                }
            }
            kept.set(common, turn);
            common.set(pivot, turn);
            pivot.set(kept, 1);
        }

        /** The target becomes (target * pivot - side * edge) / common, turned as the pivot; this leaves no rest. */
        private void cross(Big target, Big pivot, Big side, Big edge) {
            if (target.sign == 0 && (side.sign == 0 || edge.sign == 0)) {
                return;
            }
            int turn = pivot.sign;
            long by = common.small();
            if (target.isSmall() && pivot.isSmall() && side.isSmall() && edge.isSmall() && common.isSmall() && by > 0) {
                target.setLong(turn * (target.small() * pivot.small() - side.small() * edge.small()) / by);
                return;
            }
            sum.clear();
            sum.addProduct(target, pivot, turn);
            sum.addProduct(side, edge, -turn);
            if (common.isOne()) {
                sum.store(target);
                return;
            }
            sum.store(wide);
            division.divide(wide, common);
            target.set(division.quotient, wide.sign);
        }

        /** A place that is not basic becomes a number, and the basic ones follow. */
        void move(int column, long number) {
            long by = number - resting[column];
            for (int row = 0; row < rowCount; row++) {
                sum.clear();
                sum.addTimes(amounts[row], 1);
                sum.addTimes(cell(row, column), by);
                sum.store(amounts[row]);
            }
            resting[column] = number;
        }

        boolean isAmountWhole(int row) {
            if (common.isOne()) {
                return true;
            }
            division.divide(amounts[row], common);
            return division.rest.length == 0;
        }

        /** The greatest whole number below an amount that is not whole, or TOO_FAR for any that no split can have. */
        long floorOfAmount(int row) {
            division.divide(amounts[row], common);
            Big size = division.quotient;
            if (size.length > 3 || size.limbAt(2) > 1) {
                return TOO_FAR;
            }
            long number = size.limbAt(2) * MOST_SPLIT + size.lowPair();
            return amounts[row].sign < 0 ? -number - 1 : number;
        }
    }

    /** What places may be at most and at least. */
    private static final class Bounds {
        final boolean[] hasUpper = new boolean[MOST_PLACES];
        final boolean[] hasLower = new boolean[MOST_PLACES];
        final long[] upper = new long[MOST_PLACES];
        final long[] lower = new long[MOST_PLACES];

        void setRows(Rows rows) {
            for (int row = 0; row < rows.count; row++) {
                int place = rows.variables + row;
                hasUpper[place] = rows.kinds[row] != AT_LEAST;
                hasLower[place] = rows.kinds[row] != AT_MOST;
                upper[place] = rows.numbers[row];
                lower[place] = rows.numbers[row];
            }
        }

        /** The variables' bounds become those of the splits around a node. */
        void setSplits(Tree tree, int variables, int node, long[] splitAt) {
            for (int x = 0; x < variables; x++) {
                hasUpper[x] = false;
                hasLower[x] = false;
            }
            int below = node;
            for (int level = 0; level < MOST_NODES && tree.has(below) && tree.above[below] >= 0; level++) {
                int split = tree.above[below];
                if (tree.first[split] == below) {
                    tightenUpper(tree.variable[split], splitAt[split]);
                } else {
                    tightenLower(tree.variable[split], splitAt[split] + 1);
                }
                below = split;
            }
        }

        private void tightenUpper(int x, long bound) {
            upper[x] = hasUpper[x] ? Math.min(upper[x], bound) : bound;
            hasUpper[x] = true;
        }

        private void tightenLower(int x, long bound) {
            lower[x] = hasLower[x] ? Math.max(lower[x], bound) : bound;
            hasLower[x] = true;
        }
    }

    /** The multipliers of a leaf. */
    private static final class Leaf {
        final Fraction[] parts = new Fraction[MULTIPLIERS];

        Leaf() {
            for (int k = 0; k < parts.length; k++) {
                parts[k] = new Fraction(CELL_ROOM);
            }
        }

        void clear() {
            for (int k = 0; k < parts.length; k++) {
                parts[k].setSmall(0, 1);
            }
        }

        /** That of a place: a row has one for both bounds, a variable's upper one has those above 0. */
        Fraction ofPlace(int place, int variables, int sign) {
            if (place >= variables) {
                return parts[place - variables];
            }
            return sign > 0 ? parts[FIRST_UPPER + place] : parts[FIRST_LOWER + place];
        }
    }

    /** The nodes; the splits that are open are those above the leaf that is open. */
    private static final class Tree {
        final int[] above = new int[MOST_NODES];
        final int[] first = new int[MOST_NODES];
        final int[] second = new int[MOST_NODES];
        final int[] variable = new int[MOST_NODES];
        final long[] foundAt = new long[MOST_NODES];
        final long[] toldAt = new long[MOST_NODES];
        final boolean[] closed = new boolean[MOST_NODES];
        private final int[] leafNumbers = new int[MOST_NODES];
        private final Leaf[] leaves = new Leaf[MOST_LEAVES];
        private int leafCount;
        int count;
        int open = NONE;

        void clear() {
            count = 0;
            leafCount = 0;
            open = NONE;
        }

        boolean has(int k) {
            return k >= 0 && k < count;
        }

        boolean isSplit(int k) {
            return first[k] >= 0;
        }

        Leaf leafOf(int k) {
            return has(k) && !isSplit(k) ? leaves[leafNumbers[k]] : null;
        }

        /** A leaf comes to be and is open: a split's first side, if it has none yet, takes over that split's room. */
        void addLeaf(int split) {
            boolean isFirst = has(split) && first[split] < 0;
            int number = isFirst ? leafNumbers[split] : leafCount;
            if (count >= MOST_NODES || number >= MOST_LEAVES) {
                return;
            }
            if (leaves[number] == null) {
                leaves[number] = new Leaf();
            }
            leaves[number].clear();
            open = count;
            count++;
            above[open] = split;
            first[open] = NONE;
            second[open] = NONE;
            closed[open] = false;
            leafNumbers[open] = number;
            if (isFirst) {
                first[split] = open;
                return;
            }
            leafCount++;
            if (has(split)) {
                second[split] = open;
            }
        }

        void setSplitAt(int k, int x, long at) {
            if (has(k)) {
                variable[k] = x;
                foundAt[k] = at;
                toldAt[k] = at;
            }
        }

        int splitsAbove(int k) {
            int levels = 0;
            int split = has(k) ? above[k] : NONE;
            while (split >= 0 && levels < MOST_NODES) {
                levels++;
                split = above[split];
            }
            return levels;
        }

        /** The last open split whose second side is to come. */
        int lastWaiting() {
            int split = has(open) ? above[open] : NONE;
            for (int level = 0; level < MOST_NODES && split >= 0 && second[split] >= 0; level++) {
                split = above[split];
            }
            return split;
        }
    }

    /** Does the steps, and counts them. */
    private static final class Solving {
        private final Rows rows;
        private final Tableau tableau;
        private final Tree tree;
        private final Bounds bounds = new Bounds();
        int stage = NOT_BEGUN;
        int steps;
        int exchanges;
        int conflicts;
        int splits;

        Solving(Rows rows, Tableau tableau, Tree tree) {
            this.rows = rows;
            this.tableau = tableau;
            this.tree = tree;
        }

        void forget() {
            stage = NOT_BEGUN;
            steps = 0;
            exchanges = 0;
            conflicts = 0;
            splits = 0;
            tree.clear();
        }

        void begin() {
            stage = GOES_ON;
            tableau.begin(rows);
            tree.addLeaf(NONE);
            bounds.setRows(rows);
            setSplitBounds();
        }

        private void setSplitBounds() {
            bounds.setSplits(tree, rows.variables, tree.open, tree.foundAt);
        }

        void doStep() {
            steps++;
            int place = firstBeyond();
            if (place < 0) {
                int x = firstNotWhole();
                if (x >= 0) {
                    split(x);
                } else {
                    stage = SAT;
                }
                return;
            }
            int row = tableau.rowOf(place);
            int side = sideBeyond(place, row);
            int column = enteringColumn(row, side);
            if (column >= 0) {
                exchanges++;
                tableau.exchange(row, column, side < 0 ? bounds.lower[place] : bounds.upper[place]);
                return;
            }
            conflicts++;
            closeLeaf(row, side);
            goBack();
        }

        private int firstBeyond() {
            for (int place = 0; place < tableau.places(); place++) {
                int row = tableau.rowOf(place);
                if (row >= 0 && sideBeyond(place, row) != 0) {
                    return place;
                }
            }
            return NONE;
        }

        /** Only basic ones: the others are at bounds or at 0, which are whole. */
        private int firstNotWhole() {
            for (int x = 0; x < rows.variables; x++) {
                int row = tableau.rowOf(x);
                if (rows.isWhole[x] && row >= 0 && !tableau.isAmountWhole(row)) {
                    return x;
                }
            }
            return NONE;
        }

        /** -1: below its lower bound, 1: above its upper one, 0: neither. */
        private int sideBeyond(int place, int row) {
            if (bounds.hasLower[place] && tableau.compareAmount(row, bounds.lower[place]) < 0) {
                return -1;
            }
            return bounds.hasUpper[place] && tableau.compareAmount(row, bounds.upper[place]) > 0 ? 1 : 0;
        }

        private int enteringColumn(int row, int side) {
            for (int place = 0; place < tableau.places(); place++) {
                int column = tableau.columnOf(place);
                int way = column >= 0 ? -side * tableau.cell(row, column).sign : 0;
                if (way > 0 && !(bounds.hasUpper[place] && tableau.resting[column] >= bounds.upper[place])) {
                    return column;
                }
                if (way < 0 && !(bounds.hasLower[place] && tableau.resting[column] <= bounds.lower[place])) {
                    return column;
                }
            }
            return NONE;
        }

        /** Those that the conflict does not name stay: someone may have set them while the leaf was open. */
        private void closeLeaf(int row, int side) {
            Leaf leaf = tree.leafOf(tree.open);
            if (leaf == null) {
                return;
            }
            tree.closed[tree.open] = true;
            Big common = tableau.common;
            leaf.ofPlace(tableau.rowPlaces[row], rows.variables, side).setQuotient(common, common, side);
            for (int column = 0; column < rows.variables; column++) {
                Big cell = tableau.cell(row, column);
                int sign = -side * cell.sign;
                if (sign != 0) {
                    int place = tableau.columnPlaces[column];
                    leaf.ofPlace(place, rows.variables, sign).setQuotient(cell, common, -side);
                }
            }
        }

        private void goBack() {
            int split = tree.lastWaiting();
            if (split < 0) {
                stage = UNSAT;
                tree.open = NONE;
                return;
            }
            tree.addLeaf(split);
            setSplitBounds();
            int x = tree.variable[split];
            int column = tableau.columnOf(x);
            if (column >= 0 && tableau.resting[column] < bounds.lower[x]) {
                tableau.move(column, bounds.lower[x]);
            }
        }

        private void split(int x) {
            long at = tableau.floorOfAmount(tableau.rowOf(x));
            boolean isFar = at > MOST_SPLIT || at < -MOST_SPLIT;
            if (isFar || splits >= MOST_SPLITS || tree.splitsAbove(tree.open) >= MOST_OPEN) {
                stage = DEEP;
                return;
            }
            splits++;
            tree.setSplitAt(tree.open, x, at);
            tree.addLeaf(tree.open);
            setSplitBounds();
        }
    }

    /** Judges by the rows alone what is told. */
    private static final class Judge {
        private final Rows rows;
        private final Tree tree;
        private final Sum sum;
        private final Division division;
        private final Sum other = new Sum();
        private final Bounds bounds = new Bounds();
        private final long[] weights = new long[MULTIPLIERS];
        private final Big common = new Big(WIDE_ROOM);
        private final Big wide = new Big(WIDE_ROOM);

        Judge(Rows rows, Tree tree, Sum sum, Division division) {
            this.rows = rows;
            this.tree = tree;
            this.sum = sum;
            this.division = division;
        }

        int firstBrokenRow(Fraction[] witness) {
            for (int row = 0; row < rows.count; row++) {
                clearWeights();
                for (int x = 0; x < rows.variables; x++) {
                    weights[x] = rows.factors[row][x];
                }
                int sign = compareTotal(witness, rows.numbers[row]);
                if (sign > 0 && rows.kinds[row] != AT_LEAST || sign < 0 && rows.kinds[row] != AT_MOST) {
                    return row;
                }
            }
            return NONE;
        }

        int firstBrokenVariable(Fraction[] witness) {
            for (int x = 0; x < rows.variables && x < witness.length; x++) {
                if (rows.isWhole[x]) {
                    division.divide(witness[x].above, witness[x].below);
                    if (division.rest.length > 0) {
                        return x;
                    }
                }
            }
            return NONE;
        }

        boolean isGood(int k) {
            if (tree.isSplit(k)) {
                return rows.isWhole[tree.variable[k]] && tree.second[k] >= 0;
            }
            Leaf leaf = tree.leafOf(k);
            if (leaf == null) {
                return false;
            }
            bounds.setSplits(tree, rows.variables, k, tree.toldAt);
            return haveRightSigns(leaf) && cancelsVariables(leaf) && isBelowZero(leaf);
        }

        private boolean haveRightSigns(Leaf leaf) {
            for (int row = 0; row < rows.count; row++) {
                int sign = leaf.parts[row].above.sign;
                if (sign < 0 && rows.kinds[row] == AT_MOST || sign > 0 && rows.kinds[row] == AT_LEAST) {
                    return false;
                }
            }
            for (int x = 0; x < rows.variables; x++) {
                int upper = leaf.parts[FIRST_UPPER + x].above.sign;
                int lower = leaf.parts[FIRST_LOWER + x].above.sign;
                if (upper < 0 || upper > 0 && !bounds.hasUpper[x] || lower > 0 || lower < 0 && !bounds.hasLower[x]) {
                    return false;
                }
            }
            return true;
        }

        private boolean cancelsVariables(Leaf leaf) {
            for (int x = 0; x < rows.variables; x++) {
                clearWeights();
                for (int row = 0; row < rows.count; row++) {
                    weights[row] = rows.factors[row][x];
                }
                weights[FIRST_UPPER + x] = 1;
                weights[FIRST_LOWER + x] = 1;
                if (compareTotal(leaf.parts, 0) != 0) {
                    return false;
                }
            }
            return true;
        }

        private boolean isBelowZero(Leaf leaf) {
            clearWeights();
            for (int row = 0; row < rows.count; row++) {
                weights[row] = rows.numbers[row];
            }
            for (int x = 0; x < rows.variables; x++) {
                weights[FIRST_UPPER + x] = bounds.hasUpper[x] ? bounds.upper[x] : 0;
                weights[FIRST_LOWER + x] = bounds.hasLower[x] ? bounds.lower[x] : 0;
            }
            return compareTotal(leaf.parts, 0) < 0;
        }

        private void clearWeights() {
            for (int k = 0; k < weights.length; k++) {
                weights[k] = 0;
            }
        }

        /** The sign of the parts, each times its weight, less a number. */
        private int compareTotal(Fraction[] parts, long number) {
            sum.clear();
            common.setLong(1);
            for (int k = 0; k < parts.length && k < weights.length; k++) {
                Fraction part = parts[k];
                if (weights[k] != 0 && part.above.sign != 0) {
                    addPart(part, weights[k]);
                }
            }
            sum.addTimes(common, -number);
            return sum.signNow();
        }

        private void addPart(Fraction part, long weight) {
            if (part.below.compareSize(common) == 0) {
                sum.addTimes(part.above, weight);
                return;
            }
            sum.store(wide);
            sum.clear();
            sum.addProduct(wide, part.below, 1);
            other.clear();
            other.addProduct(part.above, common, 1);
            other.store(wide);
            sum.addTimes(wide, weight);
            other.clear();
            other.addProduct(common, part.below, 1);
            other.store(common);
        }
    }
}
