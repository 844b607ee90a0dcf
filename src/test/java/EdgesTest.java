/**
 * Each sentence of the document that names an edge of what is answered, in a test of its own: nothing there, all
 * places taken, ends that belong to a span, points that are as good, numbers that look like refusals, the last
 * count that is gone through.
 */
public final class EdgesTest extends Checks {
    public static void main(String[] args) {
        fiveHundredAndTwelveCalls();
        aNewObject();
        objectsApart();
        noRows();
        noNames();
        rowsThatZeroKeepsOrNot();
        allPlacesTaken();
        spanEndsBelong();
        fractionsJustKeepRows();
        noCostMakesAllBest();
        firstByName0ThenByName1();
        lowestTerms();
        denominatorAboveZero();
        numbersBeyondAnInt();
        numeratorsThatLookLikeRefusals();
        costsThatLookLikeRefusals();
        wholeThatLooksLikeRefusals();
        dropTellsHowManyThereAre();
        clearTellsHowManyNamesThereWere();
        clearFreesAllPlaces();
        clearForgetsAll();
        clearLeavesNothingToTheWhole();
        tightIsAboutTheFirstBest();
        tightOfARowOfZeros();
        reachOfOneBest();
        reachKeepsToTheBest();
        barredPlaces();
        barredMostAtOnce();
        barredFromTheGreatestDown();
        barredWithoutDropped();
        barredBySpansAlone();
        wholeCount20000();
        wholeCount20001();
        wholeCountDoesNotWrap();
        wholeCountBeforePoints();
        firstWholeBest();
        wholeOfTheLastName();
        wholeRoundsTowardsThePoints();
        noWholePoint();
        finish();
    }

    private static void fiveHundredAndTwelveCalls() {
        about("An object is used for at most 512 calls");
        ExactSimplex x = withSpans(0, 9, 0, 9);
        costs(x, 1, 2);
        addRow(x, 2, 7, 2, 3);
        int calls = 7;
        for (int k = 0; calls < 508; k++, calls++) {
            due("right(0, " + k % 40 + ")", x.right(0, k % 40), 1);
        }
        due("call 509: right(0, 7)", x.right(0, 7), 1);
        due("call 510: least(0)", x.least(0), 7);
        due("call 511: least(1)", x.least(1), 2);
        due("call 512: wholeValue(0)", x.wholeValue(0), 2);
    }

    private static void aNewObject() {
        about("Promise 1: No NAMES, no ROWS");
        ExactSimplex x = new ExactSimplex();
        dueTold(x, 0, 0, 0);
        due("run()", x.run(), 1);
        dueLeast(x, 0, 1);
        due("barred(0)", x.barred(0), -3);
        due("whole()", x.whole(), 0);
        due("isWhole()", x.isWhole(), 1);
        due("span(0, 0, 0)", x.span(0, 0, 0), -1);
        due("cost(0, 0)", x.cost(0, 0), -1);
        due("right(0, 0)", x.right(0, 0), -1);
        due("factor(0, 0, 0)", x.factor(0, 0, 0), -1);
        due("drop(0)", x.drop(0), -1);
        due("value(0, 0)", x.value(0, 0), -1);
        due("tight(0)", x.tight(0), -1);
        due("reach(0, 0, 0)", x.reach(0, 0, 0), -1);
        due("far(0, 0, 0)", x.far(0, 0, 0), -1);
        due("wholeValue(0)", x.wholeValue(0), -1);
        due("clear()", x.clear(), 0);
    }

    private static void objectsApart() {
        about("Promise 1: A new object, beside others");
        ExactSimplex x = withSpans(1, 2);
        addRow(x, 1, 3, 2);
        x.cost(0, 5);
        ExactSimplex y = new ExactSimplex();
        dueTold(y, 0, 0, 0);
        due("the other's first name", y.name(6, 7), 0);
        due("the other's first row", y.row(2, 7), 0);
        y.factor(0, 0, 1);
        dueValue(y, 0, 7, 1);
        dueValue(x, 0, 3, 2);
        due("the first one's cost", x.cost(0, 0), 5);
        due("the other's cost", y.cost(0, 0), 0);
    }

    private static void noRows() {
        about("NAMES, but no ROWS: all of the SPANS are POINTS");
        ExactSimplex x = withSpans(-100, 100, 3, 3, -4, 5, 0, 9, -8, -7);
        costs(x, 0, 99, -1, 2, -2);
        due("run()", x.run(), 1);
        dueLeast(x, 3 * 99 - 5 + 14, 1);
        dueValue(x, 0, -100, 1);
        dueValue(x, 2, 5, 1);
        dueValue(x, 3, 0, 1);
        dueValue(x, 4, -7, 1);
        dueReach(x, 0, 1, 100, 1);
        dueReach(x, 2, 0, 5, 1);
        dueFar(x, 2, 0, -4, 1);
        due("tight(0)", x.tight(0), -1);
        due("barred(0)", x.barred(0), -3);
        x.span(0, 0, 0);
        due("whole()", x.whole(), 3 * 99 - 5 + 14);
    }

    private static void noNames() {
        about("ROWS, but no NAMES");
        ExactSimplex x = new ExactSimplex();
        addRow(x, 0, 0);
        addRow(x, 0, 1000);
        addRow(x, 2, -1000);
        due("run()", x.run(), 1);
        dueLeast(x, 0, 1);
        due("tight(0)", x.tight(0), 1);
        due("tight(1)", x.tight(1), 0);
        due("tight(2)", x.tight(2), 0);
        due("factor(0, 0, 1)", x.factor(0, 0, 1), -1);
        due("value(0, 0)", x.value(0, 0), -1);
        due("whole()", x.whole(), 0);
        due("wholeValue(0)", x.wholeValue(0), -1);
        due("right(1, -1)", x.right(1, -1), 1);
        due("right(2, 1)", x.right(2, 1), 1);
        due("least(0)", x.least(0), -3);
        due("tight(0)", x.tight(0), -3);
        due("whole()", x.whole(), -3);
        due("isWhole()", x.isWhole(), 0);
        dueBarred(x, 1);
        due("drop(1)", x.drop(1), 2);
        dueBarred(x, 2);
        due("drop(2)", x.drop(2), 1);
        due("run()", x.run(), 1);
    }

    private static void rowsThatZeroKeepsOrNot() {
        about("Without NAMES there is one, unless a ROW has a RIGHT that 0 does not keep");
        int[] rights = {-1000, -1, 0, 1, 1000};
        int[][] kept = {{0, 0, 1, 1, 1}, {0, 0, 1, 0, 0}, {1, 1, 1, 0, 0}};
        for (int sense = 0; sense < 3; sense++) {
            for (int k = 0; k < rights.length; k++) {
                ExactSimplex x = new ExactSimplex();
                String row = "with row(" + sense + ", " + rights[k] + "): ";
                due(row, x.row(sense, rights[k]), 0);
                due(row + "run()", x.run(), kept[sense][k]);
                due(row + "isWhole()", x.isWhole(), kept[sense][k]);
                due(row + "least(1)", x.least(1), kept[sense][k] == 1 ? 1 : -3);
                due(row + "drop(0)", x.drop(0), 0);
                due(row + "run() after the drop", x.run(), 1);
            }
        }
    }

    private static void allPlacesTaken() {
        about("5 NAMES and 8 ROWS that are all just their RIGHT");
        ExactSimplex x = withSpans(-9, 9, -9, 9, -9, 9, -9, 9, -9, 9);
        for (int row = 0; row < 5; row++) {
            int[] factors = new int[5];
            factors[row] = 2;
            addRow(x, 1, 2 * row - 3, factors);
        }
        addRow(x, 1, 5, 2, 2, 2, 2, 2);
        addRow(x, 1, -1, 1, -1, 0, 0, 0);
        addRow(x, 1, -2, 0, 0, 1, 0, -1);
        due("run()", x.run(), 1);
        for (int name = 0; name < 5; name++) {
            dueValue(x, name, 2 * name - 3, 2);
        }
        for (int row = 0; row < 8; row++) {
            due("tight(" + row + ")", x.tight(row), 1);
        }
        due("right(7, -1)", x.right(7, -1), 1);
        due("run()", x.run(), 0);
        dueBarred(x, 2, 4, 7);
        due("right(7, -2)", x.right(7, -2), 1);
        due("right(0, -4)", x.right(0, -4), 1);
        dueBarred(x, 0, 1, 2, 3, 4, 5);
    }

    private static void spanEndsBelong() {
        about("a fraction for each NAME, in its SPAN (its ends belong to it)");
        ExactSimplex x = withSpans(-7, 12);
        addRow(x, 0, -63, 9);
        due("run() at the low end", x.run(), 1);
        dueValue(x, 0, -7, 1);
        due("wholeValue(0) at the low end", x.wholeValue(0), -7);
        x.right(0, -64);
        due("a ninth below the low end", x.run(), 0);
        due("isWhole()", x.isWhole(), 0);
        x.drop(0);
        addRow(x, 2, 108, 9);
        due("run() at the high end", x.run(), 1);
        dueValue(x, 0, 12, 1);
        due("wholeValue(0) at the high end", x.wholeValue(0), 12);
        x.right(1, 109);
        due("a ninth above the high end", x.run(), 0);
        due("isWhole()", x.isWhole(), 0);
    }

    private static void fractionsJustKeepRows() {
        about("for each ROW the sum of FACTORS times these is at most, just, at least its RIGHT");
        ExactSimplex x = withSpans(0, 1, 0, 1);
        addRow(x, 1, 1, 9, 0);
        addRow(x, 1, 1, 0, 8);
        addRow(x, 0, 2, 9, 8);
        addRow(x, 2, 2, 9, 8);
        addRow(x, 1, 0, 9, -8);
        due("a ninth and an eighth", x.run(), 1);
        dueValue(x, 0, 1, 9);
        dueValue(x, 1, 1, 8);
        for (int row = 0; row < 5; row++) {
            due("tight(" + row + ")", x.tight(row), 1);
        }
        x.factor(3, 1, 7);
        due("an eighth too little", x.run(), 0);
        dueBarred(x, 0, 1, 3);
        x.factor(3, 1, 9);
        due("an eighth more than needed", x.run(), 1);
        due("tight(3)", x.tight(3), 0);
    }

    private static void noCostMakesAllBest() {
        about("The BEST are the POINTS with the least cost: without COSTS all of them");
        ExactSimplex x = withSpans(-3, 3, -3, 3);
        addRow(x, 0, 5, 2, 2);
        dueLeast(x, 0, 1);
        for (int name = 0; name < 2; name++) {
            dueReach(x, name, 0, -3, 1);
            dueReach(x, name, 1, 3, 1);
        }
        dueValue(x, 0, -3, 1);
        dueValue(x, 1, -3, 1);
    }

    private static void firstByName0ThenByName1() {
        about("the least for NAME 0, of these for NAME 1, and so on");
        ExactSimplex x = withSpans(0, 4, 0, 4, 0, 4, 0, 4, 0, 4);
        costs(x, 1, 1, 1, 1, 1);
        addRow(x, 2, 21, 2, 2, 2, 2, 2);
        int[] above = {0, 0, 5, 4, 4};
        int[] under = {1, 1, 2, 1, 1};
        dueLeast(x, 21, 2);
        for (int name = 0; name < 5; name++) {
            dueValue(x, name, above[name], under[name]);
        }
        x.cost(4, 2);
        int[] next = {0, 5, 4, 4, 0};
        for (int name = 0; name < 5; name++) {
            dueValue(x, name, next[name], name == 1 ? 2 : 1);
        }
    }

    private static void lowestTerms() {
        about("A fraction is told in lowest terms");
        ExactSimplex x = withSpans(-100, 100);
        addRow(x, 1, 6, 4);
        dueValue(x, 0, 3, 2);
        x.right(0, 8);
        dueValue(x, 0, 2, 1);
        x.right(0, 0);
        dueValue(x, 0, 0, 1);
        dueLeast(x, 0, 1);
        x.cost(0, 6);
        x.factor(0, 0, 9);
        x.right(0, 3);
        dueValue(x, 0, 1, 3);
        dueLeast(x, 2, 1);
        dueReach(x, 0, 0, 1, 3);
        dueFar(x, 0, 1, 1, 3);
    }

    private static void denominatorAboveZero() {
        about("its denominator above 0");
        for (int factor : new int[] {-6, 6}) {
            for (int right : new int[] {-9, 9}) {
                ExactSimplex x = withSpans(-5, 5);
                addRow(x, 1, right, factor);
                x.cost(0, 7);
                int sign = factor * right < 0 ? -1 : 1;
                dueValue(x, 0, 3 * sign, 2);
                dueLeast(x, 21 * sign, 2);
                dueReach(x, 0, 0, 3 * sign, 2);
                dueFar(x, 0, 1, 3 * sign, 2);
            }
        }
    }

    private static void numbersBeyondAnInt() {
        about("A fraction is told in lowest terms: long");
        int[][] factors = {{7, -7, -8, 9, 9}, {-7, 7, -9, -8, 7}, {8, 7, -7, 9, -8}, {7, 9, 9, -9, 9},
                {-9, 8, 7, 7, 8}};
        int[] senses = {0, 1, 2, 2, 1};
        int[] rights = {177, 766, -853, -533, -598};
        long[] values = {-52613351, -75634796, -67026840, -70471567, 22933235};
        ExactSimplex x = withSpans(-100, 100, -100, 100, -100, 100, -100, 100, -100, 100);
        costs(x, 94, 94, 93, 93, -99);
        for (int row = 0; row < 5; row++) {
            addRow(x, senses[row], rights[row], factors[row]);
        }
        dueLeast(x, -27113067934L, 1522711);
        for (int name = 0; name < 5; name++) {
            dueValue(x, name, values[name], 1522711);
            dueReach(x, name, 0, values[name], 1522711);
            dueReach(x, name, 1, values[name], 1522711);
        }
    }

    private static void numeratorsThatLookLikeRefusals() {
        about("What tells a numerator may look like one");
        for (int v = -4; v <= -1; v++) {
            ExactSimplex x = withSpans(v, 0);
            x.cost(0, 1);
            dueLeast(x, v, 1);
            dueValue(x, 0, v, 1);
            dueReach(x, 0, 1, v, 1);
            dueFar(x, 0, 0, v, 1);
            addRow(x, 1, v, 5);
            dueLeast(x, v, 5);
            dueValue(x, 0, v, 5);
            dueReach(x, 0, 0, v, 5);
            dueFar(x, 0, 1, v, 5);
        }
    }

    private static void costsThatLookLikeRefusals() {
        about("Promise 4: what it was. -1, -2 (these may look like a COST)");
        ExactSimplex x = withSpans(1, 1);
        due("cost(0, -1)", x.cost(0, -1), 0);
        dueLeast(x, -1, 1);
        due("cost(0, -2)", x.cost(0, -2), -1);
        dueLeast(x, -2, 1);
        due("cost(0, -3)", x.cost(0, -3), -2);
        dueLeast(x, -3, 1);
        due("cost(0, 0)", x.cost(0, 0), -3);
    }

    private static void wholeThatLooksLikeRefusals() {
        about("The cost of the WHOLE BEST. .. (It may look like these.)");
        for (int v = -4; v <= -1; v++) {
            ExactSimplex x = withSpans(v, 0);
            x.cost(0, 1);
            due("whole()", x.whole(), v);
            due("wholeValue(0)", x.wholeValue(0), v);
            due("isWhole()", x.isWhole(), 1);
        }
    }

    private static void dropTellsHowManyThereAre() {
        about("A ROW is no more: how many there are");
        ExactSimplex x = new ExactSimplex();
        for (int row = 0; row < 8; row++) {
            x.row(1, 0);
        }
        int[] order = {7, 0, 3, 4, 6, 1, 2, 5};
        for (int k = 0; k < 8; k++) {
            due("drop(" + order[k] + ")", x.drop(order[k]), 7 - k);
            due("told(1)", x.told(1), 7 - k);
            due("drop(" + order[k] + ") again", x.drop(order[k]), -1);
        }
        dueTold(x, 0, 0, 8);
    }

    private static void clearTellsHowManyNamesThereWere() {
        about("clear: how many NAMES there were");
        for (int names = 0; names <= 5; names++) {
            ExactSimplex x = new ExactSimplex();
            for (int k = 0; k < names; k++) {
                x.name(k, k);
            }
            x.row(0, 0);
            due("clear()", x.clear(), names);
            due("clear() again", x.clear(), 0);
            dueTold(x, 0, 0, 0);
        }
    }

    private static void clearFreesAllPlaces() {
        about("clear: No NAMES, ROWS any more, so that all places are free");
        ExactSimplex x = new ExactSimplex();
        for (int round = 0; round < 3; round++) {
            addNames(x, 0, 1, 1, 2, 2, 3, 3, 4, 4, 5);
            for (int row = 0; row < 8; row++) {
                due("a row more", x.row(0, row), row);
                due("its factor", x.factor(row, 4, 1), 1);
            }
            due("a sixth name", x.name(0, 1), -4);
            due("a ninth row", x.row(0, 1), -4);
            due("drop(7)", x.drop(7), 7);
            due("run()", x.run(), 0);
            due("clear()", x.clear(), 5);
            dueTold(x, 0, 0, 0);
            due("run()", x.run(), 1);
        }
    }

    private static void clearForgetsAll() {
        about("clear: No NAMES, ROWS any more, so that nothing of them comes back");
        ExactSimplex x = withSpans(1, 2, 3, 4);
        costs(x, 5, 6);
        addRow(x, 0, 1000, 7, 8);
        addRow(x, 0, 1000, 9, 9);
        x.drop(1);
        dueLeast(x, 23, 1);
        due("whole()", x.whole(), 23);
        due("clear()", x.clear(), 2);
        dueLeast(x, 0, 1);
        due("whole()", x.whole(), 0);
        due("value(0, 0)", x.value(0, 0), -1);
        due("wholeValue(0)", x.wholeValue(0), -1);
        due("tight(0)", x.tight(0), -1);
        due("factor(0, 0, 1)", x.factor(0, 0, 1), -1);
        addNames(x, -9, 9, -9, 9);
        due("its row", x.row(1, 0), 0);
        due("another", x.row(1, 0), 1);
        dueFar(x, 0, 0, -9, 1);
        dueFar(x, 1, 1, 9, 1);
        due("tight(1)", x.tight(1), 1);
        due("cost(0, 1)", x.cost(0, 1), 0);
        due("cost(1, 1)", x.cost(1, 1), 0);
    }

    private static void clearLeavesNothingToTheWhole() {
        about("clear: No NAMES, ROWS any more, nor in whole numbers");
        for (int sense = 0; sense <= 2; sense += 2) {
            ExactSimplex x = withSpans(1, 2, 1, 2, 1, 2, 1, 2, 1, 2);
            costs(x, 9, 9, 9, 9, 9);
            addRow(x, 0, 100, 5, 5, 5, 5, 5);
            due("whole() of five names", x.whole(), 45);
            due("clear()", x.clear(), 5);
            addNames(x, -3, 3, -3, 3);
            costs(x, 1, 1);
            addRow(x, sense, 4, 1, 1);
            due("whole() of two names, sense " + sense, x.whole(), sense == 0 ? -6 : 4);
            due("wholeValue(0)", x.wholeValue(0), sense == 0 ? -3 : 1);
            due("wholeValue(1)", x.wholeValue(1), sense == 0 ? -3 : 3);
        }
    }

    private static void tightIsAboutTheFirstBest() {
        about("Whether the sum of a ROW is just its RIGHT at the FIRST BEST");
        ExactSimplex x = withSpans(0, 10, 0, 10);
        costs(x, 1, 1);
        addRow(x, 2, 12, 1, 1);
        addRow(x, 0, 10, 1, 0);
        addRow(x, 2, 2, 1, 0);
        addRow(x, 0, 10, 0, 1);
        addRow(x, 2, 2, 0, 1);
        dueReach(x, 0, 1, 10, 1);
        int[] want = {1, 0, 1, 1, 0};
        for (int row = 0; row < want.length; row++) {
            due("tight(" + row + ")", x.tight(row), want[row]);
        }
    }

    private static void tightOfARowOfZeros() {
        about("the sum of a ROW whose FACTORS are all 0 is 0");
        ExactSimplex x = withSpans(5, 6);
        x.row(0, 0);
        x.row(0, 1);
        x.row(1, 0);
        x.row(2, 0);
        x.row(2, -1);
        int[] want = {1, 0, 1, 1, 0};
        for (int row = 0; row < want.length; row++) {
            due("tight(" + row + ")", x.tight(row), want[row]);
        }
    }

    private static void reachOfOneBest() {
        about("What the BEST tell for a NAME, where there is but one");
        ExactSimplex x = withSpans(0, 9, 0, 9);
        costs(x, -3, -2);
        addRow(x, 0, 15, 4, 2);
        addRow(x, 0, 17, 2, 6);
        for (int side = 0; side < 2; side++) {
            dueReach(x, 0, side, 14, 5);
            dueReach(x, 1, side, 19, 10);
        }
    }

    private static void reachKeepsToTheBest() {
        about("What the BEST tell for a NAME, whatever was asked before");
        ExactSimplex x = withSpans(0, 9, 0, 9);
        costs(x, 1, 1);
        addRow(x, 1, 7, 2, 2);
        addRow(x, 0, 3, 1, 0);
        dueFar(x, 1, 1, 7, 2);
        dueReach(x, 1, 0, 1, 2);
        dueReach(x, 0, 1, 3, 1);
        x.drop(0);
        dueFar(x, 1, 1, 9, 1);
        dueReach(x, 1, 1, 0, 1);
        dueFar(x, 0, 1, 3, 1);
        dueReach(x, 0, 1, 0, 1);
    }

    private static void barredPlaces() {
        about("ROW k, from 0, by numbers, of THE BARRED. -3 there is a POINT, -1 there is none such");
        ExactSimplex x = withSpans(0, 9);
        addRow(x, 2, 4, 1);
        addRow(x, 0, 9, 1);
        addRow(x, 0, 4, 1);
        for (int k : new int[] {MIN, -1, 0, 1, 2, MAX}) {
            due("barred(" + k + ") where there is a point", x.barred(k), -3);
        }
        x.right(2, 3);
        dueBarred(x, 0, 2);
        for (int k : new int[] {MIN, -1, 2, 3, 8, MAX}) {
            due("barred(" + k + ")", x.barred(k), -1);
        }
    }

    private static void barredMostAtOnce() {
        about("THE BARRED, as many as can be");
        ExactSimplex x = withSpans(-9, 9, -9, 9, -9, 9, -9, 9, -9, 9);
        for (int row = 0; row < 5; row++) {
            int[] factors = new int[5];
            factors[row] = 1;
            addRow(x, 2, 1, factors);
        }
        addRow(x, 0, 5, 1, 1, 1, 1, 1);
        due("barred(0)", x.barred(0), -3);
        x.right(5, 4);
        addRow(x, 0, 9, 1, 1, 1, 1, 1);
        addRow(x, 2, -9, 1, 1, 1, 1, 1);
        dueBarred(x, 0, 1, 2, 3, 4, 5);
    }

    private static void barredFromTheGreatestDown() {
        about("from the one with the greatest number down, each is left out without which there would still be none");
        ExactSimplex x = withSpans(0, 9);
        addRow(x, 2, 6, 1);
        addRow(x, 0, 5, 1);
        addRow(x, 0, 4, 1);
        addRow(x, 2, 7, 1);
        dueBarred(x, 0, 1);
        x.drop(1);
        dueBarred(x, 0, 2);
        x.drop(0);
        dueBarred(x, 2, 3);
        addRow(x, 1, -1, 1);
        dueBarred(x, 2, 3);
        x.drop(3);
        dueBarred(x, 4);
    }

    private static void barredWithoutDropped() {
        about("THE BARRED are of the ROWS that there are");
        ExactSimplex x = withSpans(0, 9);
        addRow(x, 2, 10, 1);
        addRow(x, 2, 10, 1);
        dueBarred(x, 0);
        x.drop(0);
        dueBarred(x, 1);
        x.drop(1);
        due("barred(0)", x.barred(0), -3);
    }

    private static void barredBySpansAlone() {
        about("THE BARRED, where one ROW and the SPANS have no POINT");
        ExactSimplex x = withSpans(-100, 100, -100, 100);
        addRow(x, 0, 1000, 9, 9);
        addRow(x, 2, 1000, 9, 0);
        addRow(x, 0, -1000, 9, 1);
        dueBarred(x, 1);
        x.right(1, 901);
        dueBarred(x, 1);
        x.right(1, 900);
        dueBarred(x, 1, 2);
    }

    private static void wholeCount20000() {
        about("more than 20000 rows of whole numbers in the SPANS: 20000 are not");
        int[][] spans = {{-100, 99, 1, 100}, {0, 1, 0, 9, 0, 9, 0, 9, 0, 9}, {0, 4, 0, 0, 0, 39, 7, 7, 0, 99}};
        for (int[] ends : spans) {
            ExactSimplex x = withSpans(ends);
            int sum = 0;
            for (int name = 0; name < ends.length / 2; name++) {
                x.cost(name, 1);
                sum += ends[2 * name];
            }
            due("whole()", x.whole(), sum);
            due("wholeValue(0)", x.wholeValue(0), ends[0]);
            due("isWhole()", x.isWhole(), 1);
        }
    }

    private static void wholeCount20001() {
        about("-4 there are more than 20000 rows of whole numbers in the SPANS: 20001 are");
        // 3 times 59 times 113.
        ExactSimplex x = withSpans(-1, 1, 1, 59, -12, 100);
        due("whole()", x.whole(), -4);
        due("wholeValue(0)", x.wholeValue(0), -4);
        due("isWhole()", x.isWhole(), -4);
        x.span(2, -11, 100);
        due("whole() of one number less", x.whole(), 0);
        due("wholeValue(2) of one number less", x.wholeValue(2), -11);
        due("isWhole() of one number less", x.isWhole(), 1);
        x = withSpans(-100, 100, -100, 100);
        due("isWhole() of 201 times 201", x.isWhole(), -4);
    }

    private static void wholeCountDoesNotWrap() {
        about("more than 20000, also where the count is more than an int holds");
        // 2 to the 35th, which an int would take for 0, and 2 to the 31st, which it would take for less than 0.
        int[][] spans = {{1, 100, 1, 100, 1, 100, 1, 100, 1, 100}, {-27, 100, -27, 100, -27, 100, -27, 100, -27, 100},
                {-27, 100, -27, 100, -27, 100, -27, 100, 0, 7},
                {-100, 100, -100, 100, -100, 100, -100, 100, -100, 100}};
        for (int[] ends : spans) {
            ExactSimplex x = withSpans(ends);
            due("whole()", x.whole(), -4);
            due("wholeValue(4)", x.wholeValue(4), -4);
            due("isWhole()", x.isWhole(), -4);
        }
    }

    private static void wholeCountBeforePoints() {
        about("-4 .. (looked at first), -3");
        ExactSimplex x = withSpans(-100, 100, -100, 100);
        addRow(x, 1, 1, 2, 0);
        due("run()", x.run(), 1);
        due("whole(), no whole point", x.whole(), -4);
        due("wholeValue(1), no whole point", x.wholeValue(1), -4);
        due("isWhole(), no whole point", x.isWhole(), -4);
        due("wholeValue(2), no such name", x.wholeValue(2), -1);
        x.right(0, 1000);
        due("run()", x.run(), 0);
        due("whole(), no point", x.whole(), -4);
        due("wholeValue(1), no point", x.wholeValue(1), -4);
        due("isWhole(), no point", x.isWhole(), -4);
        x.span(1, 1, 99);
        due("whole() of 19899", x.whole(), -3);
        due("wholeValue(1) of 19899", x.wholeValue(1), -3);
        due("isWhole() of 19899", x.isWhole(), 0);
        due("wholeValue(-1), no such name", x.wholeValue(-1), -1);
    }

    private static void firstWholeBest() {
        about("What the FIRST WHOLE BEST tells for a NAME");
        ExactSimplex x = withSpans(-2, 2, -2, 2, -2, 2, -2, 2, -2, 2);
        costs(x, 2, 2, 2, 2, 2);
        addRow(x, 2, 3, 1, 1, 1, 1, 1);
        due("whole()", x.whole(), 6);
        int[] want = {-2, -1, 2, 2, 2};
        for (int name = 0; name < 5; name++) {
            due("wholeValue(" + name + ")", x.wholeValue(name), want[name]);
        }
        costs(x, 0, 0, 0, 0, -1);
        int[] next = {-2, -1, 2, 2, 2};
        for (int name = 0; name < 5; name++) {
            due("wholeValue(" + name + ")", x.wholeValue(name), next[name]);
        }
        costs(x, 0, 0, 0, 1, 0);
        int[] last = {-1, 2, 2, -2, 2};
        for (int name = 0; name < 5; name++) {
            due("wholeValue(" + name + ")", x.wholeValue(name), last[name]);
        }
    }

    private static void wholeOfTheLastName() {
        about("the WHOLE BEST, by the COST of the last NAME");
        int[][] wants = {{-2, 0, 3, -6}, {-1, 0, 3, -3}, {0, 0, 0, 0}, {1, 0, 0, 0}, {99, 0, 0, 0}, {-99, 0, 3, -297}};
        for (int[] want : wants) {
            ExactSimplex x = withSpans(0, 3, 0, 3);
            addRow(x, 0, 9, 2, 2);
            x.cost(1, want[0]);
            due("whole(), cost " + want[0], x.whole(), want[3]);
            due("wholeValue(0), cost " + want[0], x.wholeValue(0), want[1]);
            due("wholeValue(1), cost " + want[0], x.wholeValue(1), want[2]);
        }
    }

    private static void wholeRoundsTowardsThePoints() {
        about("WHOLE POINTS tell whole numbers, below 0 too");
        for (int factor : new int[] {-9, -2, -1, 1, 2, 9}) {
            for (int right = -20; right <= 20; right++) {
                for (int sense = 0; sense < 3; sense++) {
                    lookAtWholeEnds(sense, right, factor);
                }
            }
        }
    }

    private static void lookAtWholeEnds(int sense, int right, int factor) {
        ExactSimplex x = withSpans(-6, 6);
        addRow(x, sense, right, factor);
        int least = 7;
        int greatest = -7;
        for (int v = -6; v <= 6; v++) {
            int sum = factor * v;
            if (sense == 0 ? sum <= right : sense == 1 ? sum == right : sum >= right) {
                least = Math.min(least, v);
                greatest = v;
            }
        }
        String row = "sense " + sense + ", right " + right + ", factor " + factor + ": ";
        boolean none = greatest < least;
        x.cost(0, 1);
        due(row + "isWhole()", x.isWhole(), none ? 0 : 1);
        due(row + "the least", x.wholeValue(0), none ? -3 : least);
        x.cost(0, -1);
        due(row + "the greatest", x.wholeValue(0), none ? -3 : greatest);
        due(row + "its cost", x.whole(), none ? -3 : -greatest);
    }

    private static void noWholePoint() {
        about("-3 there is no .. (WHOLE POINT), though there are POINTS");
        ExactSimplex x = withSpans(0, 5, 0, 5);
        addRow(x, 1, 9, 6, 4);
        due("run()", x.run(), 1);
        due("whole()", x.whole(), -3);
        due("wholeValue(0)", x.wholeValue(0), -3);
        due("wholeValue(1)", x.wholeValue(1), -3);
        due("isWhole()", x.isWhole(), 0);
        due("barred(0)", x.barred(0), -3);
        x.right(0, 8);
        due("whole()", x.whole(), 0);
        due("wholeValue(0)", x.wholeValue(0), 0);
        due("wholeValue(1)", x.wholeValue(1), 2);
        due("isWhole()", x.isWhole(), 1);
    }
}
