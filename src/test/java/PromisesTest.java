/** Each promise of the document by hand: ordinary calls, the edges that it names, and wrong calls. */
public final class PromisesTest extends Checks {
    public static void main(String[] args) {
        promise1New();
        promise2Name();
        promise2NameBounds();
        promise3Span();
        promise4Cost();
        promise5Row();
        promise5RowSenses();
        promise6Right();
        promise7Factor();
        promise8Drop();
        promise9Clear();
        promise10Run();
        promise10RunWithoutNames();
        promise11Least();
        promise12Value();
        promise13Tight();
        promise14Reach();
        promise15Far();
        promise16Barred();
        promise16BarredOrder();
        promise17Whole();
        promise17WholeRoom();
        promise18WholeValue();
        promise19IsWhole();
        promise20Told();
        greatNumbers();
        finish();
    }

    private static void promise1New() {
        ExactSimplex x = new ExactSimplex();
        dueTold(x, 0, 0, 0);
        due("run() of a new object", x.run(), 1);
        ExactSimplex other = withSpans(0, 1);
        addRow(other, 0, -1, 1);
        dueTold(x, 0, 0, 0);
        due("run() beside another object", x.run(), 1);
        due("value of no name", x.value(0, 0), -1);
    }

    private static void promise2Name() {
        ExactSimplex x = withSpans(-100, 100, 7, 7, -3, -1, 0, 1, -100, -100);
        due("a sixth name", x.name(0, 1), -4);
        due("a sixth name with a wrong span", x.name(1, 0), -2);
        dueTold(x, 5, 0, 0);
        int[] ends = {-100, 100, 7, 7, -3, -1, 0, 1, -100, -100};
        for (int k = 0; k < ends.length; k++) {
            dueFar(x, k / 2, k % 2, ends[k], 1);
        }
    }

    private static void promise2NameBounds() {
        ExactSimplex x = new ExactSimplex();
        int[][] wrong = {{-101, 0}, {0, 101}, {1, 0}, {101, 101}, {-101, -101}, {MIN, MAX}, {MAX, MIN}, {MAX, MAX}};
        for (int[] pair : wrong) {
            due("name(" + pair[0] + ", " + pair[1] + ")", x.name(pair[0], pair[1]), -2);
        }
        dueTold(x, 0, 0, 0);
        x.row(1, 4);
        due("name after a row", x.name(0, 9), 0);
        due("the row's factor for a later name is 0", x.run(), 0);
        due("factor", x.factor(0, 0, 2), 1);
        dueFar(x, 0, 0, 2, 1);
        dueLeast(x, 0, 1);
        due("whole()", x.whole(), 0);
        due("name after answers", x.name(3, 5), 1);
        dueValue(x, 1, 3, 1);
        dueFar(x, 1, 1, 5, 1);
        due("wholeValue(1)", x.wholeValue(1), 3);
    }

    private static void promise3Span() {
        ExactSimplex x = withSpans(0, 5, 0, 5);
        due("span", x.span(1, -100, 100), 1);
        dueFar(x, 1, 0, -100, 1);
        dueFar(x, 1, 1, 100, 1);
        dueFar(x, 0, 1, 5, 1);
        due("span of one number", x.span(1, 4, 4), 1);
        dueFar(x, 1, 0, 4, 1);
        due("span of no name", x.span(2, 0, 1), -1);
        due("span of name -1", x.span(-1, 0, 1), -1);
        due("span of no name, wrong too", x.span(MAX, 1, 0), -1);
        due("span upside down", x.span(1, 1, 0), -2);
        due("span too low", x.span(1, -101, 0), -2);
        due("span too high", x.span(1, 0, 101), -2);
        dueFar(x, 1, 1, 4, 1);
        x.cost(0, 9);
        x.span(0, -1, 1);
        due("the cost stays", x.cost(0, 0), 9);
    }

    private static void promise4Cost() {
        ExactSimplex x = withSpans(-2, 3);
        due("the first cost", x.cost(0, 99), 0);
        dueLeast(x, -198, 1);
        due("another cost", x.cost(0, -99), 99);
        dueLeast(x, -297, 1);
        due("cost(0, 100)", x.cost(0, 100), -2);
        due("cost(0, -100)", x.cost(0, -100), -2);
        due("cost(0, MIN)", x.cost(0, MIN), -2);
        due("cost of no name", x.cost(1, 0), -1);
        due("cost of no name, wrong too", x.cost(1, 100), -1);
        due("cost of name -1", x.cost(-1, 0), -1);
        due("the cost after refusals", x.cost(0, -2), -99);
        due("a cost that looks like a refusal", x.cost(0, 5), -2);
        dueLeast(x, -10, 1);
    }

    private static void promise5Row() {
        ExactSimplex x = new ExactSimplex();
        int[][] wrong = {{-1, 0}, {3, 0}, {0, 1001}, {0, -1001}, {MIN, 0}, {MAX, 0}, {1, MIN}, {1, MAX}};
        for (int[] pair : wrong) {
            due("row(" + pair[0] + ", " + pair[1] + ")", x.row(pair[0], pair[1]), -2);
        }
        dueTold(x, 0, 0, 0);
        due("row(0, 1000)", x.row(0, 1000), 0);
        due("row(2, -1000)", x.row(2, -1000), 1);
        for (int row = 2; row < 8; row++) {
            due("row", x.row(1, 0), row);
        }
        due("a ninth row", x.row(0, 0), -4);
        due("a ninth row, wrong too", x.row(3, 0), -2);
        due("drop", x.drop(7), 7);
        due("a ninth row after a drop", x.row(0, 0), -4);
        dueTold(x, 0, 7, 8);
    }

    private static void promise5RowSenses() {
        ExactSimplex x = withSpans(-10, 10);
        addRow(x, 0, 7, 2);
        dueFar(x, 0, 0, -10, 1);
        dueFar(x, 0, 1, 7, 2);
        x = withSpans(-10, 10);
        addRow(x, 1, 7, 2);
        dueFar(x, 0, 0, 7, 2);
        dueFar(x, 0, 1, 7, 2);
        x = withSpans(-10, 10);
        addRow(x, 2, 7, 2);
        dueFar(x, 0, 0, 7, 2);
        dueFar(x, 0, 1, 10, 1);
        due("factors are 0 at first", x.row(1, 0), 1);
        due("a row of zeros that 0 keeps", x.run(), 1);
        due("another", x.row(1, 1), 2);
        due("a row of zeros that 0 does not keep", x.run(), 0);
    }

    private static void promise6Right() {
        ExactSimplex x = withSpans(0, 100);
        addRow(x, 1, 3, 1);
        due("right", x.right(0, 99), 1);
        dueValue(x, 0, 99, 1);
        due("right(0, 1001)", x.right(0, 1001), -2);
        due("right(0, -1001)", x.right(0, -1001), -2);
        due("right of no row", x.right(1, 0), -1);
        due("right of no row, wrong too", x.right(1, MAX), -1);
        due("right of row -1", x.right(-1, 0), -1);
        dueValue(x, 0, 99, 1);
        due("right(0, 1000)", x.right(0, 1000), 1);
        due("run()", x.run(), 0);
        due("right(0, -1000)", x.right(0, -1000), 1);
        due("run()", x.run(), 0);
        x.drop(0);
        due("right of a dropped row", x.right(0, 0), -1);
    }

    private static void promise7Factor() {
        ExactSimplex x = withSpans(-100, 100, 0, 0);
        addRow(x, 1, 63, 9);
        dueValue(x, 0, 7, 1);
        due("factor(0, 0, -9)", x.factor(0, 0, -9), 1);
        dueValue(x, 0, -7, 1);
        due("factor(0, 0, 10)", x.factor(0, 0, 10), -2);
        due("factor(0, 0, -10)", x.factor(0, 0, -10), -2);
        due("factor of no row", x.factor(1, 0, 1), -1);
        due("factor of no name", x.factor(0, 2, 1), -1);
        due("factor of row -1", x.factor(-1, 0, 1), -1);
        due("factor of name -1", x.factor(0, -1, 1), -1);
        due("factor of no name, wrong too", x.factor(0, MAX, MAX), -1);
        dueValue(x, 0, -7, 1);
        x.drop(0);
        due("factor of a dropped row", x.factor(0, 0, 1), -1);
    }

    private static void promise8Drop() {
        ExactSimplex x = withSpans(0, 10);
        addRow(x, 0, 4, 1);
        addRow(x, 0, 6, 1);
        addRow(x, 2, 1, 1);
        dueFar(x, 0, 1, 4, 1);
        due("drop(0)", x.drop(0), 2);
        dueFar(x, 0, 1, 6, 1);
        due("drop(0) again", x.drop(0), -1);
        due("drop(3)", x.drop(3), -1);
        due("drop(-1)", x.drop(-1), -1);
        due("drop(MIN)", x.drop(MIN), -1);
        due("tight of a dropped row", x.tight(0), -1);
        due("drop(2)", x.drop(2), 1);
        dueFar(x, 0, 0, 0, 1);
        due("a number does not come again", x.row(0, 5), 3);
        dueTold(x, 1, 2, 4);
        due("drop(1)", x.drop(1), 1);
        due("drop(3)", x.drop(3), 0);
        dueFar(x, 0, 1, 10, 1);
    }

    private static void promise9Clear() {
        ExactSimplex x = new ExactSimplex();
        due("clear() of nothing", x.clear(), 0);
        x = withSpans(1, 2, 3, 4);
        costs(x, 5, 6);
        addRow(x, 0, -9, 7, 8);
        addRow(x, 1, 1, 1, 1);
        x.drop(1);
        due("run()", x.run(), 0);
        due("clear()", x.clear(), 2);
        dueTold(x, 0, 0, 0);
        due("run() after clear()", x.run(), 1);
        dueLeast(x, 0, 1);
        due("whole() after clear()", x.whole(), 0);
        due("span after clear()", x.span(0, 0, 1), -1);
        due("drop after clear()", x.drop(0), -1);
        due("clear() again", x.clear(), 0);
        due("name after clear()", x.name(-4, 4), 0);
        due("row after clear()", x.row(1, 0), 0);
        due("its factors are 0", x.run(), 1);
        dueFar(x, 0, 1, 4, 1);
        due("its cost is 0", x.cost(0, 1), 0);
    }

    private static void promise10Run() {
        ExactSimplex x = withSpans(0, 10, 0, 10);
        due("spans alone", x.run(), 1);
        addRow(x, 2, 20, 1, 1);
        due("the ends belong to the spans", x.run(), 1);
        x.right(0, 21);
        due("beyond the ends", x.run(), 0);
        x.right(0, 20);
        due("back again", x.run(), 1);
        addRow(x, 0, -1, 1, -1);
        due("rows that bar one another", x.run(), 0);
        x.right(1, 0);
        due("just one point", x.run(), 1);
        x = withSpans(0, 1, 0, 1);
        addRow(x, 1, 1, 2, 0);
        addRow(x, 1, 1, 0, 2);
        due("a point of halves", x.run(), 1);
        addRow(x, 1, 2, 2, 2);
        due("rows that say the same", x.run(), 1);
        x.right(2, 3);
        due("rows that do not", x.run(), 0);
    }

    private static void promise10RunWithoutNames() {
        int[][] cases = {{0, 0, 1}, {0, 1, 1}, {0, -1, 0}, {1, 0, 1}, {1, 1, 0}, {1, -1, 0},
                {2, 0, 1}, {2, -1, 1}, {2, 1, 0}};
        for (int[] c : cases) {
            ExactSimplex x = new ExactSimplex();
            x.row(c[0], c[1]);
            due("run() with row(" + c[0] + ", " + c[1] + ") alone", x.run(), c[2]);
            due("isWhole() likewise", x.isWhole(), c[2]);
            due("least(0) likewise", x.least(0), c[2] == 1 ? 0 : -3);
            due("whole() likewise", x.whole(), c[2] == 1 ? 0 : -3);
            due("tight(0) likewise", x.tight(0), c[2] == 0 ? -3 : c[1] == 0 ? 1 : 0);
            due("barred(0) likewise", x.barred(0), c[2] == 1 ? -3 : 0);
        }
    }

    private static void promise11Least() {
        ExactSimplex x = withSpans(0, 10, 0, 10);
        dueLeast(x, 0, 1);
        costs(x, -4, -6);
        addRow(x, 0, 7, 4, 2);
        addRow(x, 0, 9, 2, 8);
        dueLeast(x, -71, 7);
        due("least(2)", x.least(2), -2);
        due("least(-1)", x.least(-1), -2);
        x.right(0, -1);
        due("least(0) without a point", x.least(0), -3);
        due("least(1) without a point", x.least(1), -3);
        due("least(2) without a point", x.least(2), -2);
        x.right(0, 7);
        x.span(0, -10, -5);
        costs(x, 3, 99);
        dueLeast(x, -30, 1);
    }

    private static void promise12Value() {
        ExactSimplex x = withSpans(0, 10, 0, 10, 0, 10);
        costs(x, 1, 1, 1);
        addRow(x, 2, 25, 2, 2, 2);
        dueValue(x, 0, 0, 1);
        dueValue(x, 1, 5, 2);
        dueValue(x, 2, 10, 1);
        x.cost(2, 2);
        dueValue(x, 0, 5, 2);
        dueValue(x, 1, 10, 1);
        dueValue(x, 2, 0, 1);
        due("value of no name", x.value(3, 0), -1);
        due("value of no name, wrong too", x.value(-1, 2), -1);
        due("value(0, 2)", x.value(0, 2), -2);
        due("value(0, -1)", x.value(0, -1), -2);
        x.right(0, 61);
        due("value(0, 0) without a point", x.value(0, 0), -3);
        due("value(0, 2) without a point", x.value(0, 2), -2);
        due("value(3, 0) without a point", x.value(3, 0), -1);
        x = withSpans(-10, 10);
        addRow(x, 1, 6, -4);
        dueValue(x, 0, -3, 2);
    }

    private static void promise13Tight() {
        ExactSimplex x = withSpans(0, 10, 0, 10);
        costs(x, -1, -1);
        addRow(x, 0, 12, 1, 1);
        addRow(x, 2, 1, 1, 0);
        addRow(x, 2, 2, 1, 0);
        addRow(x, 0, 10, 0, 1);
        addRow(x, 1, 24, 2, 2);
        int[] want = {1, 0, 1, 1, 1};
        for (int row = 0; row < want.length; row++) {
            due("tight(" + row + ")", x.tight(row), want[row]);
        }
        due("tight of no row", x.tight(5), -1);
        due("tight of row -1", x.tight(-1), -1);
        x.right(4, 25);
        due("tight(0) without a point", x.tight(0), -3);
        due("tight of no row without a point", x.tight(5), -1);
        x.drop(4);
        due("tight of a dropped row", x.tight(4), -1);
        due("tight(2)", x.tight(2), 1);
    }

    private static void promise14Reach() {
        ExactSimplex x = withSpans(0, 10, 0, 10, -5, 5);
        costs(x, 2, 2, 0);
        addRow(x, 2, 25, 2, 2, 0);
        dueReach(x, 0, 0, 5, 2);
        dueReach(x, 0, 1, 10, 1);
        dueReach(x, 1, 0, 5, 2);
        dueReach(x, 1, 1, 10, 1);
        dueReach(x, 2, 0, -5, 1);
        dueReach(x, 2, 1, 5, 1);
        dueFar(x, 0, 1, 10, 1);
        dueReach(x, 0, 0, 5, 2);
        x.cost(1, 3);
        dueReach(x, 0, 0, 10, 1);
        dueReach(x, 1, 1, 5, 2);
        due("reach of no name", x.reach(3, 0, 0), -1);
        due("reach of no name, wrong too", x.reach(-1, 2, 2), -1);
        due("reach(0, 2, 0)", x.reach(0, 2, 0), -2);
        due("reach(0, -1, 0)", x.reach(0, -1, 0), -2);
        due("reach(0, 0, 2)", x.reach(0, 0, 2), -2);
        due("reach(0, 0, -1)", x.reach(0, 0, -1), -2);
        x.right(0, 41);
        due("reach(0, 0, 0) without a point", x.reach(0, 0, 0), -3);
        due("reach(0, 2, 0) without a point", x.reach(0, 2, 0), -2);
        due("reach(3, 0, 0) without a point", x.reach(3, 0, 0), -1);
    }

    private static void promise15Far() {
        ExactSimplex x = withSpans(0, 10, 0, 10);
        costs(x, -7, 3);
        addRow(x, 0, 13, 3, 1);
        addRow(x, 2, 1, 0, 4);
        dueFar(x, 0, 0, 0, 1);
        dueFar(x, 0, 1, 17, 4);
        dueFar(x, 1, 0, 1, 4);
        dueFar(x, 1, 1, 10, 1);
        dueReach(x, 1, 1, 1, 4);
        dueFar(x, 1, 1, 10, 1);
        due("far of no name", x.far(2, 0, 0), -1);
        due("far of no name, wrong too", x.far(2, 2, 2), -1);
        due("far(0, 2, 0)", x.far(0, 2, 0), -2);
        due("far(0, -1, 0)", x.far(0, -1, 0), -2);
        due("far(0, 0, 2)", x.far(0, 0, 2), -2);
        x.right(1, 41);
        due("far(0, 0, 0) without a point", x.far(0, 0, 0), -3);
        due("far(0, 0, 2) without a point", x.far(0, 0, 2), -2);
        due("far(2, 0, 0) without a point", x.far(2, 0, 0), -1);
    }

    private static void promise16Barred() {
        ExactSimplex x = withSpans(0, 10);
        due("barred(0) with a point", x.barred(0), -3);
        due("barred(-1) with a point", x.barred(-1), -3);
        addRow(x, 0, 8, 1);
        addRow(x, 2, 5, 1);
        addRow(x, 0, 9, 1);
        addRow(x, 0, 4, 1);
        due("barred(0)", x.barred(0), 1);
        due("barred(1)", x.barred(1), 3);
        due("barred(2)", x.barred(2), -1);
        due("barred(-1)", x.barred(-1), -1);
        due("barred(MAX)", x.barred(MAX), -1);
        x.drop(3);
        due("barred(0) with a point again", x.barred(0), -3);
        x.right(1, 11);
        due("a row that the span bars", x.barred(0), 1);
        due("it alone", x.barred(1), -1);
        due("run() after barred", x.run(), 0);
        x.right(1, 10);
        x.drop(0);
        x.drop(2);
        dueValue(x, 0, 10, 1);
    }

    private static void promise16BarredOrder() {
        ExactSimplex x = withSpans(0, 10);
        addRow(x, 2, 6, 1);
        addRow(x, 0, 5, 1);
        addRow(x, 2, 20, 1);
        due("row 2 bars alone, but goes first", x.barred(0), 0);
        due("barred(1)", x.barred(1), 1);
        due("barred(2)", x.barred(2), -1);
        x = withSpans(0, 10);
        addRow(x, 2, 20, 1);
        addRow(x, 2, 6, 1);
        addRow(x, 0, 5, 1);
        due("row 0 bars alone", x.barred(0), 0);
        due("and stays alone", x.barred(1), -1);
        x = withSpans(-10, 10, -10, 10);
        addRow(x, 2, 1, 1, 1);
        addRow(x, 2, 1, 1, -1);
        addRow(x, 0, 0, 1, 0);
        for (int k = 0; k < 3; k++) {
            due("three that bar one another", x.barred(k), k);
        }
        due("barred(3)", x.barred(3), -1);
    }

    private static void promise17Whole() {
        ExactSimplex x = withSpans(0, 10, 0, 10);
        costs(x, -5, -4);
        addRow(x, 0, 24, 6, 4);
        addRow(x, 0, 6, 1, 2);
        dueLeast(x, -21, 1);
        due("whole()", x.whole(), -20);
        x = withSpans(0, 10, 0, 10);
        costs(x, 1, 1);
        addRow(x, 1, 7, 2, 4);
        due("run()", x.run(), 1);
        due("no whole point", x.whole(), -3);
        x.right(0, 6);
        due("whole()", x.whole(), 2);
        x.cost(0, -1);
        due("a cost that looks like a refusal", x.whole(), -3);
        due("isWhole() beside it", x.isWhole(), 1);
        due("without names", new ExactSimplex().whole(), 0);
    }

    private static void promise17WholeRoom() {
        ExactSimplex x = withSpans(-99, 100, 1, 100);
        costs(x, 99, -99);
        due("20000 rows of numbers", x.whole(), -99 * 99 - 99 * 100);
        x.span(0, -100, 100);
        due("20100 rows of numbers", x.whole(), -4);
        addRow(x, 0, -1, 0, 0);
        due("too many is looked at first", x.whole(), -4);
        x.span(1, 0, 0);
        due("no point", x.whole(), -3);
        x = withSpans(-100, 100, -100, 100, -100, 100, -100, 100, -100, 100);
        due("201 by itself five times", x.whole(), -4);
        due("isWhole()", x.isWhole(), -4);
        x = withSpans(-100, 100, 3, 3, -100, -100, 0, 0, 7, 7);
        due("isWhole() of 201", x.isWhole(), 1);
    }

    private static void promise18WholeValue() {
        ExactSimplex x = withSpans(-3, 3, -3, 3, -3, 3);
        costs(x, 1, 1, 1);
        addRow(x, 2, 3, 2, 2, 2);
        due("whole()", x.whole(), 2);
        due("wholeValue(0)", x.wholeValue(0), -3);
        due("wholeValue(1)", x.wholeValue(1), 2);
        due("wholeValue(2)", x.wholeValue(2), 3);
        x.cost(0, 0);
        due("wholeValue(0)", x.wholeValue(0), 3);
        due("wholeValue(1)", x.wholeValue(1), -3);
        due("wholeValue(2)", x.wholeValue(2), 2);
        due("wholeValue of no name", x.wholeValue(3), -1);
        due("wholeValue(-1)", x.wholeValue(-1), -1);
        addRow(x, 1, 1, 2, 2, 2);
        due("wholeValue without a whole point", x.wholeValue(0), -3);
        due("wholeValue of no name likewise", x.wholeValue(3), -1);
        x.span(0, -100, 100);
        x.span(1, -100, 100);
        due("wholeValue of too many", x.wholeValue(0), -4);
        due("wholeValue of no name likewise", x.wholeValue(MAX), -1);
    }

    private static void promise19IsWhole() {
        ExactSimplex x = withSpans(-5, 5, -5, 5);
        due("isWhole()", x.isWhole(), 1);
        addRow(x, 1, 1, 2, -4);
        due("an odd sum of even numbers", x.isWhole(), 0);
        due("run()", x.run(), 1);
        x.factor(0, 1, 5);
        due("isWhole()", x.isWhole(), 1);
        x.span(0, -100, 100);
        due("2211 rows of numbers", x.isWhole(), 1);
        x.span(1, -100, 100);
        due("too many", x.isWhole(), -4);
        x.right(0, 1000);
        x.factor(0, 0, 0);
        x.factor(0, 1, 1);
        due("too many, and no point", x.isWhole(), -4);
    }

    private static void promise20Told() {
        ExactSimplex x = withSpans(0, 1, 0, 1, 0, 1);
        addRow(x, 0, 1, 1);
        addRow(x, 0, 1, 1);
        dueTold(x, 3, 2, 2);
        x.drop(0);
        dueTold(x, 3, 1, 2);
        due("told(3)", x.told(3), -2);
        due("told(-1)", x.told(-1), -2);
        due("told(MIN)", x.told(MIN), -2);
        due("told(MAX)", x.told(MAX), -2);
    }

    /** Determinants of the greatest kind: nothing may run over. */
    private static void greatNumbers() {
        ExactSimplex x = withSpans(-100, 100, -100, 100, -100, 100, -100, 100, -100, 100);
        PlainModel m = new PlainModel();
        int[][] factors = {{9, 9, 9, 9, -9}, {9, 9, -9, -9, 9}, {9, -9, 9, -9, -9}, {9, -9, -9, 9, 9}, {-9, 9, 9, 8, 9},
                {9, 8, -9, 9, -9}, {7, 9, 9, -9, 9}, {-9, -9, 9, 9, 7}};
        int[] rights = {1000, -999, 998, -997, 1000, 991, 1000, 1000};
        for (int name = 0; name < 5; name++) {
            m.name(-100, 100);
            x.cost(name, 99 - 40 * name);
            m.cost(name, 99 - 40 * name);
        }
        for (int row = 0; row < 8; row++) {
            x.row(row < 3 ? 1 : 0, rights[row]);
            m.row(row < 3 ? 1 : 0, rights[row]);
            for (int name = 0; name < 5; name++) {
                x.factor(row, name, factors[row][name]);
                m.factor(row, name, factors[row][name]);
            }
        }
        due("run()", x.run(), 1);
        dueLeast(x, m.least(0), m.least(1));
        for (int name = 0; name < 5; name++) {
            dueValue(x, name, m.value(name, 0), m.value(name, 1));
            for (int side = 0; side < 2; side++) {
                dueReach(x, name, side, m.reach(name, side, 0), m.reach(name, side, 1));
                dueFar(x, name, side, m.far(name, side, 0), m.far(name, side, 1));
            }
        }
    }
}
