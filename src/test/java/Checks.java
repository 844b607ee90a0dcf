/** What the tests by hand share: objects built in one line, and fractions looked at in both parts. */
abstract class Checks {
    static final int MIN = Integer.MIN_VALUE;
    static final int MAX = Integer.MAX_VALUE;
    private static final Due DUE = new Due();

    static void about(String words) {
        DUE.about(words);
    }

    static void due(String call, long got, long want) {
        DUE.equal(call, got, want);
    }

    static void finish() {
        DUE.finish();
    }

    /** An object with these spans: low, high, low, high, .. */
    static ExactSimplex withSpans(int... ends) {
        ExactSimplex x = new ExactSimplex();
        addNames(x, ends);
        return x;
    }

    static void addNames(ExactSimplex x, int... ends) {
        for (int k = 0; k < ends.length; k += 2) {
            due("name(" + ends[k] + ", " + ends[k + 1] + ")", x.name(ends[k], ends[k + 1]), k / 2);
        }
    }

    static int addRow(ExactSimplex x, int sense, int right, int... factors) {
        int row = x.row(sense, right);
        for (int name = 0; name < factors.length; name++) {
            due("factor of a new row", x.factor(row, name, factors[name]), 1);
        }
        return row;
    }

    static void costs(ExactSimplex x, int... costs) {
        for (int name = 0; name < costs.length; name++) {
            x.cost(name, costs[name]);
        }
    }

    static void dueLeast(ExactSimplex x, long above, long under) {
        due("least(0)", x.least(0), above);
        due("least(1)", x.least(1), under);
    }

    static void dueValue(ExactSimplex x, int name, long above, long under) {
        due("value(" + name + ", 0)", x.value(name, 0), above);
        due("value(" + name + ", 1)", x.value(name, 1), under);
    }

    static void dueReach(ExactSimplex x, int name, int side, long above, long under) {
        due("reach(" + name + ", " + side + ", 0)", x.reach(name, side, 0), above);
        due("reach(" + name + ", " + side + ", 1)", x.reach(name, side, 1), under);
    }

    static void dueFar(ExactSimplex x, int name, int side, long above, long under) {
        due("far(" + name + ", " + side + ", 0)", x.far(name, side, 0), above);
        due("far(" + name + ", " + side + ", 1)", x.far(name, side, 1), under);
    }

    static void dueTold(ExactSimplex x, int names, int rows, int allRows) {
        due("told(0)", x.told(0), names);
        due("told(1)", x.told(1), rows);
        due("told(2)", x.told(2), allRows);
    }

    /** The barred are just these rows. */
    static void dueBarred(ExactSimplex x, int... rows) {
        for (int k = 0; k < rows.length; k++) {
            due("barred(" + k + ")", x.barred(k), rows[k]);
        }
        due("barred(" + rows.length + "), one too far", x.barred(rows.length), -1);
    }
}
