import java.util.Random;

/** Runs of random calls, wrong ones among them, against the plain model; the same ones every time. */
public final class RandomRunsTest {
    private static final int MOST_CALLS = 512;

    private final Due due;
    private final Random random;
    private ExactSimplex x;
    private PlainModel m;
    private int calls;
    private int most;
    private boolean tame;
    private StringBuilder log;

    private RandomRunsTest(Due due, long seed) {
        this.due = due;
        this.random = new Random(seed);
    }

    public static void main(String[] args) {
        int runs = args.length > 0 ? Integer.parseInt(args[0]) : 300;
        long seed = args.length > 1 ? Long.parseLong(args[1]) : 1;
        Due due = new Due();
        for (int run = 0; run < runs && !due.hasWrong(); run++) {
            new RandomRunsTest(due, seed * 1000003 + run).go(run);
        }
        due.finish();
    }

    private void go(int run) {
        x = new ExactSimplex();
        m = new PlainModel();
        log = new StringBuilder();
        calls = 0;
        // Corners are many with five names, and the model finds them all.
        most = run % 25 == 0 ? 5 : run % 5 == 0 ? 4 : 3;
        tame = random.nextBoolean();
        build();
        while (calls < MOST_CALLS && !due.hasWrong()) {
            ask();
            for (int k = random.nextInt(4); k >= 0; k--) {
                change();
            }
            if (random.nextInt(12) == 0) {
                wrongCall();
            }
            if (random.nextInt(25) == 0) {
                check("clear()", x.clear(), m.clear());
                build();
            }
        }
        if (due.hasWrong()) {
            System.out.println("run " + run + ":\n" + log);
        }
    }

    private void check(String call, long got, long want) {
        calls++;
        log.append(call).append(" = ").append(got).append('\n');
        if (calls <= MOST_CALLS) {
            due.equal(call, got, want);
        }
    }

    private int between(int low, int high) {
        return low + random.nextInt(high - low + 1);
    }

    private void build() {
        int names = between(0, most);
        int rows = between(0, 6);
        for (int k = 0; k < names; k++) {
            addName();
        }
        for (int k = 0; k < rows; k++) {
            addRow();
        }
        for (int k = 0; k < m.told(0); k++) {
            setCost(k);
        }
    }

    private int low() {
        return random.nextInt(6) == 0 ? between(-100, 90) : between(-6, 4);
    }

    private int high(int low) {
        return random.nextInt(5) == 0 ? between(low, 100) : Math.min(100, low + between(0, 7));
    }

    private int aFactor() {
        return tame ? between(-2, 2) : random.nextInt(4) == 0 ? 0 : between(-9, 9);
    }

    private int aRight() {
        int kind = random.nextInt(10);
        return kind == 0 ? between(-1000, 1000) : kind < 5 ? between(-3, 3) : between(-40, 40);
    }

    private void addName() {
        if (m.told(0) < most) {
            int low = low();
            int high = high(low);
            check("name(" + low + ", " + high + ")", x.name(low, high), m.name(low, high));
        }
    }

    private void addRow() {
        int sense = between(0, 2);
        int right = aRight();
        check("row(" + sense + ", " + right + ")", x.row(sense, right), m.row(sense, right));
        for (int k = 0; k < m.told(0); k++) {
            setFactor(m.told(2) - 1, k);
        }
    }

    private void setFactor(int row, int name) {
        int v = aFactor();
        check("factor(" + row + ", " + name + ", " + v + ")", x.factor(row, name, v), m.factor(row, name, v));
    }

    private void setCost(int name) {
        int v = random.nextInt(3) == 0 ? 0 : tame ? between(-2, 2) : between(-99, 99);
        check("cost(" + name + ", " + v + ")", x.cost(name, v), m.cost(name, v));
    }

    private void change() {
        int name = between(0, 4);
        int row = between(0, 8);
        int kind = random.nextInt(9);
        if (kind == 0) {
            addName();
        } else if (kind == 1) {
            int low = low();
            int high = high(low);
            check("span(" + name + ", " + low + ", " + high + ")", x.span(name, low, high), m.span(name, low, high));
        } else if (kind == 2) {
            setCost(name);
        } else if (kind == 3) {
            addRow();
        } else if (kind <= 5) {
            int v = aRight();
            check("right(" + row + ", " + v + ")", x.right(row, v), m.right(row, v));
        } else if (kind == 6) {
            check("drop(" + row + ")", x.drop(row), m.drop(row));
        } else {
            setFactor(row, name);
        }
    }

    private void ask() {
        check("run()", x.run(), m.run());
        int questions = between(1, 14);
        for (int k = 0; k < questions; k++) {
            question(random.nextInt(10), between(0, Math.max(0, m.told(0) - 1)), between(0, Math.max(0, m.told(2) - 1)),
                    random.nextInt(2), random.nextInt(2));
        }
    }

    private void question(int kind, int name, int row, int side, int part) {
        String end = "(" + name + ", " + side + ", " + part + ")";
        switch (kind) {
            case 0:
                check("least(" + part + ")", x.least(part), m.least(part));
                break;
            case 1:
                check("value(" + name + ", " + part + ")", x.value(name, part), m.value(name, part));
                break;
            case 2:
                check("tight(" + row + ")", x.tight(row), m.tight(row));
                break;
            case 3:
                check("reach" + end, x.reach(name, side, part), m.reach(name, side, part));
                break;
            case 4:
                check("far" + end, x.far(name, side, part), m.far(name, side, part));
                break;
            case 5:
                check("barred(" + row + ")", x.barred(row), m.barred(row));
                break;
            case 6:
                check("whole()", x.whole(), m.whole());
                break;
            case 7:
                check("wholeValue(" + name + ")", x.wholeValue(name), m.wholeValue(name));
                break;
            case 8:
                check("isWhole()", x.isWhole(), m.isWhole());
                break;
            default:
                check("told(" + row + ")", x.told(row), m.told(row));
        }
    }

    private int odd() {
        int[] list = {Integer.MIN_VALUE, Integer.MAX_VALUE, -1, 0, 1, 2, 3, 5, 8, 9, 10, 99, 100, 101, 1000, 1001,
                -100, -101};
        return list[random.nextInt(list.length)];
    }

    private void wrongCall() {
        int a = odd();
        int b = odd();
        int c = odd();
        question(random.nextInt(10), a, b, random.nextBoolean() ? c : 0, random.nextBoolean() ? odd() : 1);
        String three = "(" + a + ", " + b + ", " + c + ")";
        String two = "(" + a + ", " + b + ")";
        switch (random.nextInt(8)) {
            case 0:
                if (most == 5 || m.told(0) < most) {
                    check("name" + two, x.name(a, b), m.name(a, b));
                }
                break;
            case 1:
                check("span" + three, x.span(a, b, c), m.span(a, b, c));
                break;
            case 2:
                check("cost" + two, x.cost(a, b), m.cost(a, b));
                break;
            case 3:
                check("row" + two, x.row(a, b), m.row(a, b));
                break;
            case 4:
                check("right" + two, x.right(a, b), m.right(a, b));
                break;
            case 5:
                check("factor" + three, x.factor(a, b, c), m.factor(a, b, c));
                break;
            case 6:
                check("drop(" + a + ")", x.drop(a), m.drop(a));
                break;
            default:
                check("told(" + a + ")", x.told(a), m.told(a));
        }
    }
}
