/**
 * Linear rows over a few names, solved exactly. All arithmetic is on whole numbers: fractions are kept over one
 * common denominator, so no answer is ever rounded. README.md says how the class is used.
 */
public final class ExactSimplex {
    private static final int NO_SUCH = -1;
    private static final int OUTSIDE = -2;
    private static final int NO_POINT = -3;
    private static final int NO_ROOM = -4;

    private static final int MOST_NAMES = 5;
    private static final int MOST_ROWS = 8;
    private static final int SPAN_BOUND = 100;
    private static final int COST_BOUND = 99;
    private static final int RIGHT_BOUND = 1000;
    private static final int FACTOR_BOUND = 9;
    private static final int AT_MOST = 0;
    private static final int JUST = 1;
    private static final int AT_LEAST = 2;
    private static final int MOST_WHOLE = 20000;

    private final Problem problem;
    private final Solver solver;
    private final WholeSearch search;

    public ExactSimplex() {
        problem = new Problem();
        solver = new Solver(problem);
        search = new WholeSearch(problem);
    }

    public int name(int low, int high) {
        if (!isSpan(low, high)) {
            return OUTSIDE;
        }
        forgetAnswers();
        return problem.addName(low, high);
    }

    public int span(int name, int low, int high) {
        if (!problem.hasName(name)) {
            return NO_SUCH;
        }
        if (!isSpan(low, high)) {
            return OUTSIDE;
        }
        forgetAnswers();
        problem.lows[name] = low;
        problem.highs[name] = high;
        return 1;
    }

    public int cost(int name, int v) {
        if (!problem.hasName(name)) {
            return NO_SUCH;
        }
        if (!isWithin(v, COST_BOUND)) {
            return OUTSIDE;
        }
        forgetAnswers();
        int before = problem.costs[name];
        problem.costs[name] = v;
        return before;
    }

    public int row(int sense, int right) {
        if (sense < AT_MOST || sense > AT_LEAST || !isWithin(right, RIGHT_BOUND)) {
            return OUTSIDE;
        }
        forgetAnswers();
        return problem.addRow(sense, right);
    }

    public int right(int row, int v) {
        if (!problem.hasRow(row)) {
            return NO_SUCH;
        }
        if (!isWithin(v, RIGHT_BOUND)) {
            return OUTSIDE;
        }
        forgetAnswers();
        problem.rights[row] = v;
        return 1;
    }

    public int factor(int row, int name, int v) {
        if (!problem.hasRow(row) || !problem.hasName(name)) {
            return NO_SUCH;
        }
        if (!isWithin(v, FACTOR_BOUND)) {
            return OUTSIDE;
        }
        forgetAnswers();
        problem.factors[row][name] = v;
        return 1;
    }

    public int drop(int row) {
        if (!problem.hasRow(row)) {
            return NO_SUCH;
        }
        forgetAnswers();
        problem.there[row] = false;
        return problem.countRows();
    }

    public int clear() {
        forgetAnswers();
        int before = problem.names;
        problem.names = 0;
        problem.rows = 0;
        return before;
    }

    public int run() {
        return solver.hasPoint() ? 1 : 0;
    }

    public long least(int part) {
        if (!isZeroOrOne(part)) {
            return OUTSIDE;
        }
        if (!solver.hasPoint()) {
            return NO_POINT;
        }
        return solver.leastCost(part);
    }

    public long value(int name, int part) {
        if (!problem.hasName(name)) {
            return NO_SUCH;
        }
        if (!isZeroOrOne(part)) {
            return OUTSIDE;
        }
        if (!solver.hasPoint()) {
            return NO_POINT;
        }
        return solver.firstBestOf(name, part);
    }

    public int tight(int row) {
        if (!problem.hasRow(row)) {
            return NO_SUCH;
        }
        if (!solver.hasPoint()) {
            return NO_POINT;
        }
        return solver.isTight(row) ? 1 : 0;
    }

    public long reach(int name, int side, int part) {
        int refusal = refusalOfEnd(name, side, part);
        return refusal != 0 ? refusal : solver.endAmongBest(name, side, part);
    }

    public long far(int name, int side, int part) {
        int refusal = refusalOfEnd(name, side, part);
        return refusal != 0 ? refusal : solver.endAmongAll(name, side, part);
    }

    public int barred(int k) {
        if (solver.hasPoint()) {
            return NO_POINT;
        }
        int row = solver.barredRow(k);
        return row < 0 ? NO_SUCH : row;
    }

    public int whole() {
        int refusal = refusalOfWhole();
        return refusal != 0 ? refusal : search.leastCost();
    }

    public int wholeValue(int name) {
        if (!problem.hasName(name)) {
            return NO_SUCH;
        }
        int refusal = refusalOfWhole();
        return refusal != 0 ? refusal : search.firstBestOf(name);
    }

    public int isWhole() {
        int refusal = refusalOfWhole();
        if (refusal == NO_ROOM) {
            return NO_ROOM;
        }
        return refusal == 0 ? 1 : 0;
    }

    public int told(int what) {
        if (what == 0) {
            return problem.names;
        }
        if (what == 1) {
            return problem.countRows();
        }
        return what == 2 ? problem.rows : OUTSIDE;
    }

    private void forgetAnswers() {
        solver.forget();
        search.forget();
    }

    private int refusalOfEnd(int name, int side, int part) {
        if (!problem.hasName(name)) {
            return NO_SUCH;
        }
        if (!isZeroOrOne(side) || !isZeroOrOne(part)) {
            return OUTSIDE;
        }
        return solver.hasPoint() ? 0 : NO_POINT;
    }

    private int refusalOfWhole() {
        if (problem.countWhole() > MOST_WHOLE) {
            return NO_ROOM;
        }
        return search.hasPoint() ? 0 : NO_POINT;
    }

    private static boolean isSpan(int low, int high) {
        return isWithin(low, SPAN_BOUND) && isWithin(high, SPAN_BOUND) && low <= high;
    }

    private static boolean isWithin(int v, int bound) {
        return v >= -bound && v <= bound;
    }

    private static boolean isZeroOrOne(int v) {
        return v == 0 || v == 1;
    }

    /** The names and rows as they were told. */
    private static final class Problem {
        final int[] lows = new int[MOST_NAMES];
        final int[] highs = new int[MOST_NAMES];
        final int[] costs = new int[MOST_NAMES];
        final int[] senses = new int[MOST_ROWS];
        final int[] rights = new int[MOST_ROWS];
        final int[][] factors = new int[MOST_ROWS][MOST_NAMES];
        final boolean[] there = new boolean[MOST_ROWS];
        int names;
        int rows;

        boolean hasName(int name) {
            return name >= 0 && name < names;
        }

        boolean hasRow(int row) {
            return row >= 0 && row < rows && there[row];
        }

        int addName(int low, int high) {
            int name = names;
            if (name >= MOST_NAMES) {
                return NO_ROOM;
            }
            lows[name] = low;
            highs[name] = high;
            costs[name] = 0;
            names++;
            return name;
        }

        int addRow(int sense, int right) {
            int row = rows;
            if (row >= MOST_ROWS) {
                return NO_ROOM;
            }
            senses[row] = sense;
            rights[row] = right;
            there[row] = true;
            // Names that come later find their factor 0 too, so the whole line is wiped.
            for (int name = 0; name < MOST_NAMES; name++) {
                factors[row][name] = 0;
            }
            rows++;
            return row;
        }

        int countRows() {
            int count = 0;
            for (int row = 0; row < rows; row++) {
                if (there[row]) {
                    count++;
                }
            }
            return count;
        }

        // A long: five spans of 201 numbers are more than an int holds.
        long countWhole() {
            long count = 1;
            for (int name = 0; name < names; name++) {
                count *= highs[name] - lows[name] + 1;
            }
            return count;
        }

        boolean limitsFromAbove(int row) {
            return senses[row] == AT_MOST || senses[row] == JUST;
        }

        boolean limitsFromBelow(int row) {
            return senses[row] == AT_LEAST || senses[row] == JUST;
        }
    }

    /**
     * Answers about fractions. The dictionary stays at some point between calls, wherever the last call left it:
     * every search may start at any point, and most calls ask about the neighbourhood of the one before.
     */
    private static final class Solver {
        private final Problem problem;
        private final Dictionary dictionary = new Dictionary();
        private final int[] goal = new int[MOST_NAMES];
        private final long[] firstBest = new long[MOST_NAMES];
        private long firstBestUnder = 1;
        private boolean pointSought;
        private boolean pointThere;
        private boolean firstBestKnown;
        private boolean barredKnown;
        private int barredSet;

        Solver(Problem problem) {
            this.problem = problem;
        }

        void forget() {
            pointSought = false;
            firstBestKnown = false;
            barredKnown = false;
        }

        boolean hasPoint() {
            if (!pointSought) {
                pointThere = canKeep(allRows());
                pointSought = true;
            }
            return pointThere;
        }

        long leastCost(int part) {
            findFirstBest();
            long sum = 0;
            for (int name = 0; name < problem.names; name++) {
                sum += problem.costs[name] * firstBest[name];
            }
            return partOf(sum, firstBestUnder, part);
        }

        long firstBestOf(int name, int part) {
            findFirstBest();
            return partOf(firstBest[name], firstBestUnder, part);
        }

        boolean isTight(int row) {
            findFirstBest();
            long sum = 0;
            for (int name = 0; name < problem.names; name++) {
                sum += problem.factors[row][name] * firstBest[name];
            }
            return sum == problem.rights[row] * firstBestUnder;
        }

        long endAmongBest(int name, int side, int part) {
            dictionary.thawAll();
            keepToBest();
            return endFromHere(name, side, part);
        }

        long endAmongAll(int name, int side, int part) {
            dictionary.thawAll();
            return endFromHere(name, side, part);
        }

        int barredRow(int k) {
            findBarred();
            int place = 0;
            for (int row = 0; row < problem.rows; row++) {
                if ((barredSet & 1 << row) != 0) {
                    if (place == k) {
                        return row;
                    }
                    place++;
                }
            }
            return -1;
        }

        private long endFromHere(int name, int side, int part) {
            aimAt(name, side == 0 ? 1 : -1);
            dictionary.minimise(goal);
            return partOf(numeratorOf(name), dictionary.denominator(), part);
        }

        private void findFirstBest() {
            if (firstBestKnown) {
                return;
            }
            dictionary.thawAll();
            keepToBest();
            for (int name = 0; name < problem.names; name++) {
                aimAt(name, 1);
                dictionary.minimise(goal);
                dictionary.freezeDear();
            }
            for (int name = 0; name < problem.names; name++) {
                firstBest[name] = numeratorOf(name);
            }
            firstBestUnder = dictionary.denominator();
            firstBestKnown = true;
        }

        private void keepToBest() {
            dictionary.minimise(problem.costs);
            dictionary.freezeDear();
        }

        private void aimAt(int name, int weight) {
            for (int other = 0; other < MOST_NAMES; other++) {
                goal[other] = other == name ? weight : 0;
            }
        }

        // The dictionary counts a name from its low end, so that none of its numbers is below 0.
        private long numeratorOf(int name) {
            return problem.lows[name] * dictionary.denominator() + dictionary.numerator(name);
        }

        private void findBarred() {
            if (barredKnown) {
                return;
            }
            int set = allRows();
            for (int row = problem.rows - 1; row >= 0; row--) {
                int without = set & ~(1 << row);
                if (without != set && !canKeep(without)) {
                    set = without;
                }
            }
            barredSet = set;
            barredKnown = true;
        }

        private int allRows() {
            int set = 0;
            for (int row = 0; row < problem.rows; row++) {
                if (problem.there[row]) {
                    set |= 1 << row;
                }
            }
            return set;
        }

        private boolean canKeep(int set) {
            dictionary.begin(problem.names);
            for (int name = 0; name < problem.names; name++) {
                aimAt(name, 1);
                dictionary.addAtMost(goal, 1, problem.highs[name] - problem.lows[name]);
            }
            for (int row = 0; row < problem.rows; row++) {
                if ((set & 1 << row) != 0) {
                    addRow(row);
                }
            }
            return dictionary.findPoint();
        }

        private void addRow(int row) {
            int[] factors = problem.factors[row];
            int right = problem.rights[row];
            for (int name = 0; name < problem.names; name++) {
                right -= factors[name] * problem.lows[name];
            }
            if (problem.limitsFromAbove(row)) {
                dictionary.addAtMost(factors, 1, right);
            }
            if (problem.limitsFromBelow(row)) {
                dictionary.addAtMost(factors, -1, -right);
            }
        }

        private static long partOf(long above, long under, int part) {
            long divisor = greatestDivisor(above, under);
            if (divisor == 0) {
                return 0;
            }
            return part == 0 ? above / divisor : under / divisor;
        }

        private static long greatestDivisor(long a, long b) {
            long x = Math.abs(a);
            long y = Math.abs(b);
            // Euclid's way halves a long at least every second step.
            for (int step = 0; step < 200 && y != 0; step++) {
                long rest = x % y;
                x = y;
                y = rest;
            }
            return x;
        }
    }

    /**
     * The simplex method's dictionary: each basic variable told by the ones outside the basis, which are all 0 at
     * the point where the dictionary stands:
     *
     *   under * basic[r] = rests[r] - (sum over s of table[r][s] * outside[s])
     *
     * Variables 0, 1, .. are the names, counted from their low ends, the others are what rows have to spare; none
     * may fall below 0. Every entry is a determinant of at most six lines of factors and rights. With the
     * document's bounds these stay below 2^37, those without rights below 2^22, so the sum of two products fits
     * into a long.
     */
    private static final class Dictionary {
        // A span's high end and two sides of each row.
        private static final int MOST_LINES = MOST_NAMES + 2 * MOST_ROWS;
        // No basis comes twice by Bland's rule, and 5 of 26 variables can be chosen in 65780 ways.
        private static final int MOST_PIVOTS = 100000;

        private final long[][] table = new long[MOST_LINES][MOST_NAMES];
        private final long[] rests = new long[MOST_LINES];
        private final int[] basic = new int[MOST_LINES];
        private final int[] outside = new int[MOST_NAMES];
        private final boolean[] frozen = new boolean[MOST_NAMES];
        private final long[] slopes = new long[MOST_NAMES];
        private long under = 1;
        private int lines;
        private int columns;

        void begin(int names) {
            columns = Math.min(names, MOST_NAMES);
            lines = 0;
            under = 1;
            for (int s = 0; s < columns; s++) {
                outside[s] = s;
            }
            thawAll();
        }

        void addAtMost(int[] factors, int sign, int right) {
            if (lines >= MOST_LINES || factors.length < columns) {
                return;
            }
            for (int s = 0; s < columns; s++) {
                table[lines][s] = sign * factors[s];
            }
            rests[lines] = right;
            basic[lines] = columns + lines;
            lines++;
        }

        long denominator() {
            return under;
        }

        long numerator(int variable) {
            for (int r = 0; r < lines; r++) {
                if (basic[r] == variable) {
                    return rests[r];
                }
            }
            return 0;
        }

        /** Goes to a point, if there is one, by Bland's rule for the dual: with no cost all columns are equal. */
        boolean findPoint() {
            for (int count = 0; count < MOST_PIVOTS; count++) {
                int r = brokenLine();
                if (r < 0) {
                    return true;
                }
                int s = mendingColumn(r);
                if (s < 0) {
                    return false;
                }
                pivot(r, s);
            }
            return false;
        }

        /** Goes to a point with the least sum of the goal's weights times names, where frozen variables stay 0. */
        void minimise(int[] goal) {
            if (goal.length < columns) {
                return;
            }
            for (int count = 0; count < MOST_PIVOTS; count++) {
                findSlopes(goal);
                int s = fallingColumn();
                int r = s < 0 ? -1 : firstStop(s);
                if (r < 0) {
                    return;
                }
                pivot(r, s);
            }
        }

        /** After minimise: keeps to the points that are as good, those where no variable with a slope rises. */
        void freezeDear() {
            for (int s = 0; s < columns; s++) {
                if (slopes[s] > 0) {
                    frozen[s] = true;
                }
            }
        }

        void thawAll() {
            for (int s = 0; s < columns; s++) {
                frozen[s] = false;
            }
        }

        private int brokenLine() {
            int best = -1;
            for (int r = 0; r < lines; r++) {
                if (rests[r] < 0 && (best < 0 || basic[r] < basic[best])) {
                    best = r;
                }
            }
            return best;
        }

        private int mendingColumn(int r) {
            int best = -1;
            for (int s = 0; s < columns; s++) {
                if (table[r][s] < 0 && (best < 0 || outside[s] < outside[best])) {
                    best = s;
                }
            }
            return best;
        }

        private void findSlopes(int[] goal) {
            for (int s = 0; s < columns; s++) {
                slopes[s] = outside[s] < columns ? goal[outside[s]] * under : 0;
            }
            for (int r = 0; r < lines; r++) {
                int weight = basic[r] < columns ? goal[basic[r]] : 0;
                for (int s = 0; s < columns && weight != 0; s++) {
                    slopes[s] -= weight * table[r][s];
                }
            }
        }

        private int fallingColumn() {
            int best = -1;
            for (int s = 0; s < columns; s++) {
                if (!frozen[s] && slopes[s] < 0 && (best < 0 || outside[s] < outside[best])) {
                    best = s;
                }
            }
            return best;
        }

        private int firstStop(int s) {
            int best = -1;
            for (int r = 0; r < lines; r++) {
                if (table[r][s] > 0 && (best < 0 || stopsBefore(r, best, s))) {
                    best = r;
                }
            }
            return best;
        }

        private boolean stopsBefore(int r, int other, int s) {
            long here = rests[r] * table[other][s];
            long there = rests[other] * table[r][s];
            return here < there || here == there && basic[r] < basic[other];
        }

        private void pivot(int r, int s) {
            long p = table[r][s];
            // The common denominator stays above 0, so a pivot below 0 turns all signs.
            long divisor = p < 0 ? -under : under;
            if (p == 0 || divisor == 0) {
                return;
            }
            for (int i = 0; i < lines; i++) {
                if (i != r) {
                    sweepLine(i, r, s, divisor);
                }
            }
            if (p < 0) {
                turnLine(r);
            }
            table[r][s] = divisor;
            under = Math.abs(p);
            int leaving = basic[r];
            basic[r] = outside[s];
            outside[s] = leaving;
        }

        // The division leaves nothing over: what comes out is a determinant of whole numbers.
        private void sweepLine(int i, int r, int s, long divisor) {
            long p = table[r][s];
            long q = table[i][s];
            if (divisor == 0 || q == 0 && p == divisor) {
                return;
            }
            for (int j = 0; j < columns; j++) {
                if (j != s) {
                    table[i][j] = (p * table[i][j] - q * table[r][j]) / divisor;
                }
            }
            rests[i] = (p * rests[i] - q * rests[r]) / divisor;
            table[i][s] = p < 0 ? q : -q;
        }

        private void turnLine(int r) {
            for (int j = 0; j < columns; j++) {
                table[r][j] = -table[r][j];
            }
            rests[r] = -rests[r];
        }
    }

    /**
     * Goes through the rows of whole numbers in the spans, name by name and upwards, so that of equal costs the
     * first comes first. What the rows, and the cost found so far, leave for a name is looked at before it is
     * gone through. The cost is held as one more row, that must be at most one less than the best so far.
     */
    private static final class WholeSearch {
        private static final int COST_LINE = MOST_ROWS;
        private static final int LINES = MOST_ROWS + 1;
        // At most 20000 numbers are set for each of five names, and each is left once.
        private static final int MOST_STEPS = 1000000;

        private final Problem problem;
        private final int[] point = new int[MOST_NAMES];
        private final int[] ends = new int[MOST_NAMES];
        private final int[] firstBest = new int[MOST_NAMES];
        // By how many names are set: the sum of what is set, and the least and greatest that the others can add.
        private final int[][] sums = new int[MOST_NAMES + 1][LINES];
        private final int[][] leastMore = new int[MOST_NAMES + 1][LINES];
        private final int[][] mostMore = new int[MOST_NAMES + 1][LINES];
        private int bestCost;
        private boolean found;
        private boolean sought;

        WholeSearch(Problem problem) {
            this.problem = problem;
        }

        void forget() {
            sought = false;
        }

        boolean hasPoint() {
            if (sought) {
                return found;
            }
            found = false;
            sought = true;
            weighOthers();
            int depth = 0;
            openName(depth);
            for (int step = 0; step < MOST_STEPS && depth >= 0; step++) {
                if (depth >= problem.names) {
                    takePoint();
                    depth--;
                } else if (point[depth] >= ends[depth]) {
                    depth--;
                } else {
                    point[depth]++;
                    addUp(depth);
                    if (mayBeCheaper(depth + 1)) {
                        depth++;
                        openName(depth);
                    }
                }
            }
            return found;
        }

        int leastCost() {
            return bestCost;
        }

        int firstBestOf(int name) {
            return firstBest[name];
        }

        private void weighOthers() {
            int names = problem.names;
            for (int line = 0; line < LINES; line++) {
                sums[0][line] = 0;
                leastMore[names][line] = 0;
                mostMore[names][line] = 0;
                for (int name = names - 1; name >= 0; name--) {
                    int atLow = weight(line, name) * problem.lows[name];
                    int atHigh = weight(line, name) * problem.highs[name];
                    leastMore[name][line] = leastMore[name + 1][line] + Math.min(atLow, atHigh);
                    mostMore[name][line] = mostMore[name + 1][line] + Math.max(atLow, atHigh);
                }
            }
        }

        private int weight(int line, int name) {
            return line == COST_LINE ? problem.costs[name] : problem.factors[line][name];
        }

        private void openName(int name) {
            if (name >= problem.names) {
                return;
            }
            point[name] = problem.lows[name] - 1;
            ends[name] = problem.highs[name];
            for (int row = 0; row < problem.rows; row++) {
                if (problem.hasRow(row)) {
                    narrowByRow(name, row);
                }
            }
            if (found) {
                int room = bestCost - 1 - sums[name][COST_LINE] - leastMore[name + 1][COST_LINE];
                narrow(name, problem.costs[name], room);
            }
            if (name == problem.names - 1) {
                keepCheapest(name);
            }
        }

        private void narrowByRow(int name, int row) {
            int factor = problem.factors[row][name];
            int open = problem.rights[row] - sums[name][row];
            if (problem.limitsFromAbove(row)) {
                narrow(name, factor, open - leastMore[name + 1][row]);
            }
            if (problem.limitsFromBelow(row)) {
                narrow(name, -factor, mostMore[name + 1][row] - open);
            }
        }

        // Keeps of a name's numbers those that, times the factor, are at most the room.
        private void narrow(int name, int factor, int room) {
            if (factor > 0) {
                ends[name] = Math.min(ends[name], Math.floorDiv(room, factor));
            } else if (factor < 0) {
                point[name] = Math.max(point[name], -Math.floorDiv(room, -factor) - 1);
            } else if (room < 0) {
                ends[name] = problem.lows[name] - 1;
            }
        }

        // What is left of the last name's numbers all keeps the rows, so only the first of the cheapest matters.
        private void keepCheapest(int name) {
            if (problem.costs[name] < 0) {
                point[name] = Math.max(point[name], ends[name] - 1);
            } else {
                ends[name] = Math.min(ends[name], point[name] + 1);
            }
        }

        private void addUp(int name) {
            for (int row = 0; row < problem.rows; row++) {
                sums[name + 1][row] = sums[name][row] + problem.factors[row][name] * point[name];
            }
            sums[name + 1][COST_LINE] = sums[name][COST_LINE] + problem.costs[name] * point[name];
        }

        // Asked again for each number: a cheaper point may have come since the name was opened.
        private boolean mayBeCheaper(int depth) {
            return !found || sums[depth][COST_LINE] + leastMore[depth][COST_LINE] < bestCost;
        }

        private void takePoint() {
            int names = problem.names;
            if (!keepsRows() || !mayBeCheaper(names)) {
                return;
            }
            found = true;
            bestCost = sums[names][COST_LINE];
            for (int name = 0; name < names; name++) {
                firstBest[name] = point[name];
            }
        }

        // The last name's narrowing has seen to this already, but without names there is none.
        private boolean keepsRows() {
            for (int row = 0; row < problem.rows; row++) {
                int over = sums[problem.names][row] - problem.rights[row];
                if (problem.hasRow(row) && (over > 0 && problem.limitsFromAbove(row)
                        || over < 0 && problem.limitsFromBelow(row))) {
                    return false;
                }
            }
            return true;
        }
    }
}
