import java.util.ArrayList;
import java.util.List;

/**
 * The document's words, done slowly and by another way than the class: every corner of the points is found by
 * setting as many rows and span ends to "just" as there are names, and all rows of whole numbers are gone through.
 */
final class PlainModel {
    private record Name(int low, int high, int cost) {}

    private record Line(int[] factors, int right) {}

    /** A corner: numerators of the names over one denominator above 0. */
    private record Corner(long[] above, long under) {}

    private static final class Row {
        final int sense;
        int right;
        final int[] factors = new int[5];
        boolean there = true;

        Row(int sense, int right) {
            this.sense = sense;
            this.right = right;
        }
    }

    private final List<Name> names = new ArrayList<>();
    private final List<Row> rows = new ArrayList<>();
    private List<Corner> corners;
    private List<Integer> barred;
    private int[] wholeBest;
    private boolean wholeSought;

    int name(int low, int high) {
        if (!isSpan(low, high)) {
            return -2;
        }
        if (names.size() == 5) {
            return -4;
        }
        changed();
        names.add(new Name(low, high, 0));
        return names.size() - 1;
    }

    int span(int name, int low, int high) {
        if (!isName(name)) {
            return -1;
        }
        if (!isSpan(low, high)) {
            return -2;
        }
        changed();
        names.set(name, new Name(low, high, names.get(name).cost));
        return 1;
    }

    int cost(int name, int v) {
        if (!isName(name)) {
            return -1;
        }
        if (v < -99 || v > 99) {
            return -2;
        }
        changed();
        Name old = names.get(name);
        names.set(name, new Name(old.low, old.high, v));
        return old.cost;
    }

    int row(int sense, int right) {
        if (sense < 0 || sense > 2 || right < -1000 || right > 1000) {
            return -2;
        }
        if (rows.size() == 8) {
            return -4;
        }
        changed();
        rows.add(new Row(sense, right));
        return rows.size() - 1;
    }

    int right(int row, int v) {
        if (!isRow(row)) {
            return -1;
        }
        if (v < -1000 || v > 1000) {
            return -2;
        }
        changed();
        rows.get(row).right = v;
        return 1;
    }

    int factor(int row, int name, int v) {
        if (!isRow(row) || !isName(name)) {
            return -1;
        }
        if (v < -9 || v > 9) {
            return -2;
        }
        changed();
        rows.get(row).factors[name] = v;
        return 1;
    }

    int drop(int row) {
        if (!isRow(row)) {
            return -1;
        }
        changed();
        rows.get(row).there = false;
        return told(1);
    }

    int clear() {
        changed();
        int before = names.size();
        names.clear();
        rows.clear();
        return before;
    }

    int run() {
        return corners().isEmpty() ? 0 : 1;
    }

    long least(int part) {
        if (part < 0 || part > 1) {
            return -2;
        }
        if (run() == 0) {
            return -3;
        }
        Corner best = firstBest();
        return part(costOf(best), best.under, part);
    }

    long value(int name, int part) {
        if (!isName(name)) {
            return -1;
        }
        if (part < 0 || part > 1) {
            return -2;
        }
        if (run() == 0) {
            return -3;
        }
        Corner best = firstBest();
        return part(best.above[name], best.under, part);
    }

    int tight(int row) {
        if (!isRow(row)) {
            return -1;
        }
        if (run() == 0) {
            return -3;
        }
        return overOf(rows.get(row), firstBest()) == 0 ? 1 : 0;
    }

    long reach(int name, int side, int part) {
        return end(name, side, part, true);
    }

    long far(int name, int side, int part) {
        return end(name, side, part, false);
    }

    int barred(int k) {
        if (run() == 1) {
            return -3;
        }
        if (barred == null) {
            findBarred();
        }
        return k < 0 || k >= barred.size() ? -1 : barred.get(k);
    }

    int whole() {
        if (hasManyWhole()) {
            return -4;
        }
        int[] best = wholeBest();
        return best == null ? -3 : costOf(best);
    }

    int wholeValue(int name) {
        if (!isName(name)) {
            return -1;
        }
        if (hasManyWhole()) {
            return -4;
        }
        int[] best = wholeBest();
        return best == null ? -3 : best[name];
    }

    int isWhole() {
        if (hasManyWhole()) {
            return -4;
        }
        return wholeBest() == null ? 0 : 1;
    }

    int told(int what) {
        switch (what) {
            case 0:
                return names.size();
            case 1:
                return (int) rows.stream().filter(r -> r.there).count();
            case 2:
                return rows.size();
            default:
                return -2;
        }
    }

    private void changed() {
        corners = null;
        barred = null;
        wholeBest = null;
        wholeSought = false;
    }

    private boolean isName(int name) {
        return name >= 0 && name < names.size();
    }

    private boolean isRow(int row) {
        return row >= 0 && row < rows.size() && rows.get(row).there;
    }

    private static boolean isSpan(int low, int high) {
        return low >= -100 && low <= high && high <= 100;
    }

    private static long part(long above, long under, int part) {
        long a = Math.abs(above);
        long b = under;
        while (b != 0) {
            long c = a % b;
            a = b;
            b = c;
        }
        return part == 0 ? above / a : under / a;
    }

    private long end(int name, int side, int part, boolean amongBest) {
        if (!isName(name)) {
            return -1;
        }
        if (side < 0 || side > 1 || part < 0 || part > 1) {
            return -2;
        }
        if (run() == 0) {
            return -3;
        }
        Corner first = firstBest();
        Corner end = null;
        for (Corner c : corners()) {
            if (amongBest && compare(costOf(c), c.under, costOf(first), first.under) != 0) {
                continue;
            }
            int order = end == null ? 0 : compare(c.above[name], c.under, end.above[name], end.under);
            if (end == null || (side == 0 ? order < 0 : order > 0)) {
                end = c;
            }
        }
        return part(end.above[name], end.under, part);
    }

    private Corner firstBest() {
        Corner best = null;
        for (Corner c : corners()) {
            if (best == null || isBefore(c, best)) {
                best = c;
            }
        }
        return best;
    }

    private boolean isBefore(Corner c, Corner d) {
        int order = compare(costOf(c), c.under, costOf(d), d.under);
        for (int name = 0; name < names.size() && order == 0; name++) {
            order = compare(c.above[name], c.under, d.above[name], d.under);
        }
        return order < 0;
    }

    private static int compare(long a, long b, long c, long d) {
        return Long.compare(Math.multiplyExact(a, d), Math.multiplyExact(c, b));
    }

    private long costOf(Corner c) {
        long sum = 0;
        for (int name = 0; name < names.size(); name++) {
            sum += names.get(name).cost * c.above[name];
        }
        return sum;
    }

    private int costOf(int[] point) {
        int sum = 0;
        for (int name = 0; name < names.size(); name++) {
            sum += names.get(name).cost * point[name];
        }
        return sum;
    }

    private long overOf(Row row, Corner c) {
        long sum = Math.multiplyExact(-row.right, c.under);
        for (int name = 0; name < names.size(); name++) {
            sum = Math.addExact(sum, Math.multiplyExact(row.factors[name], c.above[name]));
        }
        return sum;
    }

    private static boolean keeps(int sense, long over) {
        return sense == 0 ? over <= 0 : sense == 1 ? over == 0 : over >= 0;
    }

    private void findBarred() {
        List<Row> kept = thereRows();
        for (int row = rows.size() - 1; row >= 0; row--) {
            List<Row> fewer = new ArrayList<>(kept);
            if (fewer.remove(rows.get(row)) && findCorners(fewer, true).isEmpty()) {
                kept = fewer;
            }
        }
        barred = new ArrayList<>();
        for (int row = 0; row < rows.size(); row++) {
            if (kept.contains(rows.get(row))) {
                barred.add(row);
            }
        }
    }

    private List<Row> thereRows() {
        List<Row> list = new ArrayList<>();
        for (Row row : rows) {
            if (row.there) {
                list.add(row);
            }
        }
        return list;
    }

    private List<Corner> corners() {
        if (corners == null) {
            corners = findCorners(thereRows(), false);
        }
        return corners;
    }

    private List<Corner> findCorners(List<Row> kept, boolean oneIsEnough) {
        List<Line> lines = new ArrayList<>();
        for (int name = 0; name < names.size(); name++) {
            int[] unit = new int[5];
            unit[name] = 1;
            lines.add(new Line(unit, names.get(name).low));
            if (names.get(name).high != names.get(name).low) {
                lines.add(new Line(unit, names.get(name).high));
            }
        }
        for (Row row : kept) {
            lines.add(new Line(row.factors, row.right));
        }
        List<Corner> found = new ArrayList<>();
        choose(lines, 0, new ArrayList<>(), kept, found, oneIsEnough);
        return found;
    }

    private void choose(List<Line> lines, int from, List<Line> chosen, List<Row> kept, List<Corner> found,
            boolean oneIsEnough) {
        if (oneIsEnough && !found.isEmpty()) {
            return;
        }
        if (chosen.size() == names.size()) {
            Corner c = cross(chosen);
            if (c != null && isPoint(c, kept)) {
                found.add(c);
            }
            return;
        }
        for (int k = from; k < lines.size(); k++) {
            chosen.add(lines.get(k));
            choose(lines, k + 1, chosen, kept, found, oneIsEnough);
            chosen.remove(chosen.size() - 1);
        }
    }

    /** Where the lines cross: by Gauss and Jordan on whole numbers; null if not in just one place. */
    private Corner cross(List<Line> lines) {
        int n = names.size();
        long[][] m = new long[n][n + 1];
        for (int i = 0; i < n; i++) {
            for (int j = 0; j < n; j++) {
                m[i][j] = lines.get(i).factors[j];
            }
            m[i][n] = lines.get(i).right;
        }
        long last = 1;
        for (int k = 0; k < n; k++) {
            int p = k;
            while (p < n && m[p][k] == 0) {
                p++;
            }
            if (p == n) {
                return null;
            }
            long[] swap = m[p];
            m[p] = m[k];
            m[k] = swap;
            for (int i = 0; i < n; i++) {
                if (i == k) {
                    continue;
                }
                long f = m[i][k];
                for (int j = 0; j <= n; j++) {
                    m[i][j] = Math.subtractExact(Math.multiplyExact(m[k][k], m[i][j]),
                            Math.multiplyExact(f, m[k][j])) / last;
                }
            }
            last = m[k][k];
        }
        long[] above = new long[n];
        for (int i = 0; i < n; i++) {
            above[i] = last < 0 ? -m[i][n] : m[i][n];
        }
        return new Corner(above, Math.abs(last));
    }

    private boolean isPoint(Corner c, List<Row> kept) {
        for (int name = 0; name < names.size(); name++) {
            if (c.above[name] < names.get(name).low * c.under || c.above[name] > names.get(name).high * c.under) {
                return false;
            }
        }
        for (Row row : kept) {
            if (!keeps(row.sense, overOf(row, c))) {
                return false;
            }
        }
        return true;
    }

    private boolean hasManyWhole() {
        long count = 1;
        for (Name name : names) {
            count *= name.high - name.low + 1;
        }
        return count > 20000;
    }

    private int[] wholeBest() {
        if (!wholeSought) {
            tryWhole(new int[5], 0);
            wholeSought = true;
        }
        return wholeBest;
    }

    private void tryWhole(int[] point, int name) {
        if (name < names.size()) {
            for (int v = names.get(name).low; v <= names.get(name).high; v++) {
                point[name] = v;
                tryWhole(point, name + 1);
            }
            return;
        }
        for (Row row : thereRows()) {
            int over = -row.right;
            for (int k = 0; k < names.size(); k++) {
                over += row.factors[k] * point[k];
            }
            if (!keeps(row.sense, over)) {
                return;
            }
        }
        if (wholeBest == null || costOf(point) < costOf(wholeBest)) {
            wholeBest = point.clone();
        }
    }
}
