/**
 * Each bound that "Terms" names, in a test of its own: the last value that is allowed and the first one that is not,
 * on both sides. What a refused call must leave as it is, RefusalsTest looks at.
 */
public final class BoundsTest extends Checks {
    public static void main(String[] args) {
        fiveNames();
        lowOfANewName();
        highOfANewName();
        lowOfASpan();
        highOfASpan();
        lowAtMostHigh();
        costBounds();
        costIsZeroAtFirst();
        eightRows();
        droppedRowsCount();
        numbersDoNotComeAgain();
        threeSenses();
        rightOfANewRow();
        rightOfARow();
        factorBounds();
        factorIsZeroAtFirst();
        factorOfALaterNameIsZeroAtFirst();
        parts();
        sides();
        whatIsTold();
        finish();
    }

    private static void fiveNames() {
        about("NAMES are numbered 0, 1, .. (5 at most)");
        ExactSimplex x = new ExactSimplex();
        for (int name = 0; name < 5; name++) {
            due("value of the next name", x.value(name, 0), -1);
            due("a name more", x.name(name, name), name);
            due("told(0)", x.told(0), name + 1);
        }
        due("a sixth name", x.name(0, 0), -4);
        due("told(0)", x.told(0), 5);
        for (int name = 0; name < 5; name++) {
            dueValue(x, name, name, 1);
        }
        due("value(5, 0)", x.value(5, 0), -1);
        due("value(-1, 0)", x.value(-1, 0), -1);
    }

    private static void lowOfANewName() {
        about("LOW (from -100 to 100), by name");
        ExactSimplex x = new ExactSimplex();
        due("name(-101, 0)", x.name(-101, 0), -2);
        due("name(-101, -101)", x.name(-101, -101), -2);
        due("name(MIN, 0)", x.name(MIN, 0), -2);
        due("name(101, 101)", x.name(101, 101), -2);
        due("name(-100, 0)", x.name(-100, 0), 0);
        due("name(100, 100)", x.name(100, 100), 1);
        dueFar(x, 0, 0, -100, 1);
        dueFar(x, 1, 0, 100, 1);
    }

    private static void highOfANewName() {
        about("HIGH (from -100 to 100), by name");
        ExactSimplex x = new ExactSimplex();
        due("name(0, 101)", x.name(0, 101), -2);
        due("name(100, 101)", x.name(100, 101), -2);
        due("name(0, MAX)", x.name(0, MAX), -2);
        due("name(-101, -101)", x.name(-101, -101), -2);
        due("name(0, 100)", x.name(0, 100), 0);
        due("name(-100, -100)", x.name(-100, -100), 1);
        dueFar(x, 0, 1, 100, 1);
        dueFar(x, 1, 1, -100, 1);
    }

    private static void lowOfASpan() {
        about("LOW (from -100 to 100), by span");
        ExactSimplex x = withSpans(1, 2, 3, 4);
        due("span(1, -101, 0)", x.span(1, -101, 0), -2);
        due("span(1, MIN, 0)", x.span(1, MIN, 0), -2);
        due("span(1, 101, 101)", x.span(1, 101, 101), -2);
        dueFar(x, 1, 0, 3, 1);
        due("span(1, -100, 0)", x.span(1, -100, 0), 1);
        dueFar(x, 1, 0, -100, 1);
        due("span(1, 100, 100)", x.span(1, 100, 100), 1);
        dueFar(x, 1, 0, 100, 1);
        dueFar(x, 0, 0, 1, 1);
    }

    private static void highOfASpan() {
        about("HIGH (from -100 to 100), by span");
        ExactSimplex x = withSpans(1, 2, 3, 4);
        due("span(1, 0, 101)", x.span(1, 0, 101), -2);
        due("span(1, 0, MAX)", x.span(1, 0, MAX), -2);
        due("span(1, -101, -101)", x.span(1, -101, -101), -2);
        dueFar(x, 1, 1, 4, 1);
        due("span(1, 0, 100)", x.span(1, 0, 100), 1);
        dueFar(x, 1, 1, 100, 1);
        due("span(1, -100, -100)", x.span(1, -100, -100), 1);
        dueFar(x, 1, 1, -100, 1);
        dueFar(x, 0, 1, 2, 1);
    }

    private static void lowAtMostHigh() {
        about("LOW at most HIGH");
        int[][] upsideDown = {{1, 0}, {-99, -100}, {100, 99}, {100, -100}, {0, -1}};
        int[][] justOneNumber = {{0, 0}, {-100, -100}, {100, 100}, {-1, -1}};
        for (int[] pair : upsideDown) {
            ExactSimplex x = withSpans(-7, 7);
            due("name(" + pair[0] + ", " + pair[1] + ")", x.name(pair[0], pair[1]), -2);
            due("span(0, " + pair[0] + ", " + pair[1] + ")", x.span(0, pair[0], pair[1]), -2);
            dueTold(x, 1, 0, 0);
            dueFar(x, 0, 0, -7, 1);
            dueFar(x, 0, 1, 7, 1);
        }
        for (int[] pair : justOneNumber) {
            ExactSimplex x = withSpans(-7, 7, pair[0], pair[1]);
            due("span(0, " + pair[0] + ", " + pair[1] + ")", x.span(0, pair[0], pair[1]), 1);
            for (int name = 0; name < 2; name++) {
                dueFar(x, name, 0, pair[0], 1);
                dueFar(x, name, 1, pair[0], 1);
            }
        }
        due("name(-1, 0)", new ExactSimplex().name(-1, 0), 0);
    }

    private static void costBounds() {
        about("COST (-99 to 99)");
        ExactSimplex x = withSpans(0, 1);
        due("cost(0, 100)", x.cost(0, 100), -2);
        due("cost(0, MAX)", x.cost(0, MAX), -2);
        due("cost(0, -100)", x.cost(0, -100), -2);
        due("cost(0, MIN)", x.cost(0, MIN), -2);
        due("cost(0, -99)", x.cost(0, -99), 0);
        dueLeast(x, -99, 1);
        due("cost(0, 99)", x.cost(0, 99), -99);
        x.span(0, 1, 1);
        dueLeast(x, 99, 1);
        due("cost(0, 98)", x.cost(0, 98), 99);
    }

    private static void costIsZeroAtFirst() {
        about("COST (.. 0 at first)");
        ExactSimplex x = withSpans(5, 9, 5, 9, 5, 9, 5, 9, 5, 9);
        dueLeast(x, 0, 1);
        for (int name = 0; name < 5; name++) {
            due("cost(" + name + ", 1)", x.cost(name, 1), 0);
        }
        dueLeast(x, 25, 1);
    }

    private static void eightRows() {
        about("ROWS are numbered 0, 1, .. (8 at most)");
        ExactSimplex x = withSpans(0, 100);
        for (int row = 0; row < 8; row++) {
            due("tight of the next row", x.tight(row), -1);
            due("a row more", x.row(2, 0), row);
            due("its factor", x.factor(row, 0, 1), 1);
            dueTold(x, 1, row + 1, row + 1);
        }
        due("a ninth row", x.row(2, 0), -4);
        dueTold(x, 1, 8, 8);
        for (int row = 0; row < 8; row++) {
            due("right(" + row + ", " + (row + 1) + ")", x.right(row, row + 1), 1);
            dueFar(x, 0, 0, row + 1, 1);
        }
        due("right(8, 0)", x.right(8, 0), -1);
        due("right(-1, 0)", x.right(-1, 0), -1);
    }

    private static void droppedRowsCount() {
        about("ROWS (8 at most, those that were dropped counted)");
        ExactSimplex x = new ExactSimplex();
        for (int row = 0; row < 7; row++) {
            due("a row more", x.row(0, 0), row);
            due("drop", x.drop(row), 0);
        }
        due("the eighth row", x.row(0, 0), 7);
        dueTold(x, 0, 1, 8);
        due("a ninth, where one stands", x.row(0, 0), -4);
        due("drop(7)", x.drop(7), 0);
        due("a ninth, where none stands", x.row(0, 0), -4);
        dueTold(x, 0, 0, 8);
    }

    private static void numbersDoNotComeAgain() {
        about("ROWS (.. a number does not come again)");
        ExactSimplex x = withSpans(0, 9);
        addRow(x, 0, 5, 1);
        addRow(x, 0, 6, 1);
        due("drop the last", x.drop(1), 1);
        due("a row after it", x.row(0, 7), 2);
        due("drop the first", x.drop(0), 1);
        due("a row after it", x.row(0, 8), 3);
        due("tight(0)", x.tight(0), -1);
        due("tight(1)", x.tight(1), -1);
        dueTold(x, 1, 2, 4);
    }

    private static void threeSenses() {
        about("SENSE (0 at most, 1 just, 2 at least)");
        ExactSimplex x = withSpans(0, 9);
        due("row(-1, 0)", x.row(-1, 0), -2);
        due("row(3, 0)", x.row(3, 0), -2);
        due("row(MIN, 0)", x.row(MIN, 0), -2);
        due("row(MAX, 0)", x.row(MAX, 0), -2);
        dueTold(x, 1, 0, 0);
        // By sense: whether a sum one below, just at, and one above the right keeps the row.
        int[][] keeps = {{1, 1, 0}, {0, 1, 0}, {0, 1, 1}};
        for (int sense = 0; sense < 3; sense++) {
            for (int sum = 3; sum <= 5; sum++) {
                ExactSimplex y = withSpans(sum, sum);
                addRow(y, sense, 4, 1);
                due("sense " + sense + ", right 4, sum " + sum, y.run(), keeps[sense][sum - 3]);
                due("isWhole() likewise", y.isWhole(), keeps[sense][sum - 3]);
            }
        }
    }

    private static void rightOfANewRow() {
        about("RIGHT (-1000 to 1000), by row");
        ExactSimplex x = withSpans(-100, 100, -100, 100);
        for (int sense = 0; sense < 3; sense++) {
            due("row(" + sense + ", 1001)", x.row(sense, 1001), -2);
            due("row(" + sense + ", -1001)", x.row(sense, -1001), -2);
            due("row(" + sense + ", MAX)", x.row(sense, MAX), -2);
            due("row(" + sense + ", MIN)", x.row(sense, MIN), -2);
        }
        dueTold(x, 2, 0, 0);
        due("row(2, 1000)", x.row(2, 1000), 0);
        due("no sum of zeros", x.run(), 0);
        x.factor(0, 0, 9);
        x.factor(0, 1, 1);
        due("a point in the corner", x.run(), 1);
        dueFar(x, 1, 0, 100, 1);
        due("row(0, -1000)", x.row(0, -1000), 1);
        due("run()", x.run(), 0);
        x.drop(0);
        x.factor(1, 0, 9);
        x.factor(1, 1, 1);
        dueFar(x, 0, 1, -100, 1);
    }

    private static void rightOfARow() {
        about("RIGHT (-1000 to 1000), by right");
        ExactSimplex x = withSpans(-100, 100, -100, 100);
        addRow(x, 1, 0, 9, 1);
        due("right(0, 1001)", x.right(0, 1001), -2);
        due("right(0, -1001)", x.right(0, -1001), -2);
        due("right(0, MAX)", x.right(0, MAX), -2);
        due("right(0, MIN)", x.right(0, MIN), -2);
        due("right(0, 1000)", x.right(0, 1000), 1);
        dueValue(x, 0, 100, 1);
        dueValue(x, 1, 100, 1);
        due("right(0, -1000)", x.right(0, -1000), 1);
        dueValue(x, 0, -100, 1);
        dueValue(x, 1, -100, 1);
    }

    private static void factorBounds() {
        about("FACTOR (-9 to 9)");
        ExactSimplex x = withSpans(-100, 100);
        addRow(x, 1, 1, 1);
        due("factor(0, 0, 10)", x.factor(0, 0, 10), -2);
        due("factor(0, 0, -10)", x.factor(0, 0, -10), -2);
        due("factor(0, 0, MAX)", x.factor(0, 0, MAX), -2);
        due("factor(0, 0, MIN)", x.factor(0, 0, MIN), -2);
        dueValue(x, 0, 1, 1);
        due("factor(0, 0, 9)", x.factor(0, 0, 9), 1);
        dueValue(x, 0, 1, 9);
        due("factor(0, 0, -9)", x.factor(0, 0, -9), 1);
        dueValue(x, 0, -1, 9);
        due("factor(0, 0, 0)", x.factor(0, 0, 0), 1);
        due("run()", x.run(), 0);
    }

    private static void factorIsZeroAtFirst() {
        about("FACTOR for each NAME (.. 0 at first)");
        ExactSimplex x = withSpans(1, 2, 1, 2, 1, 2, 1, 2, 1, 2);
        for (int row = 0; row < 8; row++) {
            x.row(1, 0);
        }
        due("rows of zeros", x.run(), 1);
        for (int name = 0; name < 5; name++) {
            dueFar(x, name, 0, 1, 1);
            dueFar(x, name, 1, 2, 1);
        }
        due("whole()", x.whole(), 0);
        for (int row = 0; row < 8; row++) {
            due("tight(" + row + ")", x.tight(row), 1);
        }
    }

    private static void factorOfALaterNameIsZeroAtFirst() {
        about("FACTOR for each NAME (.. 0 at first), the NAME after the ROW");
        ExactSimplex x = withSpans(3, 9);
        addRow(x, 1, 8, 2);
        addNamesLater(x, 4);
        dueValue(x, 0, 4, 1);
        for (int name = 1; name < 5; name++) {
            dueFar(x, name, 0, -5, 1);
            dueFar(x, name, 1, 5, 1);
        }
    }

    private static void addNamesLater(ExactSimplex x, int count) {
        for (int k = 0; k < count; k++) {
            due("a later name", x.name(-5, 5), k + 1);
        }
    }

    private static void parts() {
        about("part 0 the numerator, 1 the denominator; -2 outside its bounds (also a part)");
        ExactSimplex x = withSpans(-9, 9);
        addRow(x, 1, 5, 2);
        x.cost(0, 3);
        dueLeast(x, 15, 2);
        dueValue(x, 0, 5, 2);
        dueReach(x, 0, 1, 5, 2);
        dueFar(x, 0, 1, 5, 2);
        for (int part : new int[] {-1, 2, MIN, MAX}) {
            due("least(" + part + ")", x.least(part), -2);
            due("value(0, " + part + ")", x.value(0, part), -2);
            for (int side = 0; side < 2; side++) {
                due("reach(0, " + side + ", " + part + ")", x.reach(0, side, part), -2);
                due("far(0, " + side + ", " + part + ")", x.far(0, side, part), -2);
            }
        }
    }

    private static void sides() {
        about("side 0 the least, 1 the greatest; -2 outside its bounds (also a side)");
        ExactSimplex x = withSpans(-9, 8);
        dueReach(x, 0, 0, -9, 1);
        dueReach(x, 0, 1, 8, 1);
        dueFar(x, 0, 0, -9, 1);
        dueFar(x, 0, 1, 8, 1);
        for (int side : new int[] {-1, 2, MIN, MAX}) {
            for (int part = 0; part < 2; part++) {
                due("reach(0, " + side + ", " + part + ")", x.reach(0, side, part), -2);
                due("far(0, " + side + ", " + part + ")", x.far(0, side, part), -2);
            }
        }
    }

    private static void whatIsTold() {
        about("What = 0 NAMES, 1 ROWS that there are, 2 ROWS with those that were dropped. -2");
        ExactSimplex x = withSpans(0, 1, 0, 1, 0, 1);
        for (int row = 0; row < 8; row++) {
            x.row(0, 0);
        }
        x.drop(3);
        x.drop(7);
        dueTold(x, 3, 6, 8);
        due("told(-1)", x.told(-1), -2);
        due("told(3)", x.told(3), -2);
        due("told(MIN)", x.told(MIN), -2);
        due("told(MAX)", x.told(MAX), -2);
    }
}
