import java.util.ArrayList;
import java.util.List;
import java.util.function.Consumer;
import java.util.function.ToLongFunction;

/**
 * "REFUSALS change nothing and answer, the first that fits": every call, with arguments on both sides of every bound,
 * on objects in every kind of state. What is due is worked out here from the words of the promises and from what is
 * known of the state. A call that is refused, or only asks, is made on one of two equal objects: whatever is asked
 * and done afterwards must be answered alike by both. No object here gets more than 512 calls.
 */
public final class RefusalsTest extends Checks {
    private static final long NOT_REFUSED = Long.MIN_VALUE;
    private static final int[] COSTS = {7, -99, 0, 99, -3};
    private static final int[] NUMBERS = {MIN, -1, 0, 1, 2, 4, 5, 7, 8, MAX};
    private static final int[] ENDS = {MIN, -101, -100, -1, 0, 1, 100, 101, MAX};
    private static final int[] RIGHTS = {MIN, -1001, -1000, 0, 1000, 1001, MAX};
    private static final int[] SMALL = {MIN, -1, 0, 1, 2, 3, MAX};

    /** What is known of an object from how it was built. */
    private record State(String title, int names, int rows, int dropped, boolean point, boolean wholePoint,
            boolean tooMany, Consumer<ExactSimplex> build) {
        boolean hasName(int name) {
            return name >= 0 && name < names;
        }

        boolean hasRow(int row) {
            return row >= 0 && row < rows && row != dropped;
        }

        int standing() {
            return dropped >= 0 ? rows - 1 : rows;
        }
    }

    private record Call(String text, ToLongFunction<ExactSimplex> make) {}

    private final State state;
    private final List<Long> untouched;
    private final List<Long> untouchedAndAsked;

    private RefusalsTest(State state) {
        this.state = state;
        untouched = later(built(), false);
        untouchedAndAsked = later(built(), true);
    }

    public static void main(String[] args) {
        for (State state : states()) {
            RefusalsTest test = new RefusalsTest(state);
            test.name();
            test.span();
            test.cost();
            test.row();
            test.right();
            test.factor();
            test.drop();
            test.clear();
            test.least();
            test.value();
            test.tight();
            test.reach();
            test.far();
            test.barred();
            test.whole();
            test.wholeValue();
            test.isWhole();
            test.told();
            test.run();
        }
        finish();
    }

    private static List<State> states() {
        return List.of(
                new State("new", 0, 0, -1, true, true, false, x -> { }),
                new State("names alone", 2, 0, -1, true, true, false, x -> build(x, 2, 0, -1, 5)),
                new State("rows alone", 0, 3, 1, true, true, false, x -> build(x, 0, 3, 1, 5)),
                new State("rows alone that bar", 0, 8, 7, false, false, false, x -> {
                    build(x, 0, 8, 7, 5);
                    x.right(2, -1);
                }),
                new State("a point", 3, 4, 2, true, true, false, x -> build(x, 3, 4, 2, 3)),
                new State("no point", 3, 5, 0, false, false, false, x -> {
                    build(x, 3, 5, 0, 3);
                    x.right(4, -1000);
                }),
                new State("no whole point", 2, 3, -1, true, false, false, x -> {
                    build(x, 2, 2, -1, 5);
                    x.row(1, 1);
                    x.factor(2, 0, 2);
                    x.factor(2, 1, 4);
                }),
                new State("too many", 3, 2, 1, true, true, true, x -> build(x, 3, 2, 1, 60)),
                new State("too many and no point", 4, 7, 3, false, false, true, x -> {
                    build(x, 4, 7, 3, 60);
                    x.right(6, -1000);
                    x.factor(6, 0, 0);
                }),
                new State("cleared", 0, 0, -1, true, true, false, x -> {
                    build(x, 5, 8, 7, 2);
                    x.clear();
                }),
                new State("cleared and built again", 2, 3, 0, true, true, false, x -> {
                    build(x, 5, 8, 7, 60);
                    x.clear();
                    build(x, 2, 3, 0, 4);
                }),
                new State("all places taken", 5, 8, 7, true, true, false, x -> build(x, 5, 8, 7, 2)),
                new State("all places taken and no point", 5, 8, -1, false, false, true, x -> {
                    build(x, 5, 8, -1, 60);
                    x.right(7, -1000);
                    x.right(5, -1000);
                }));
    }

    /** Spans around 0, so that 0 for each name is a point until a row's right falls below 0. */
    private static void build(ExactSimplex x, int names, int rows, int dropped, int width) {
        for (int name = 0; name < names; name++) {
            x.name(-width, width + name);
            x.cost(name, COSTS[name]);
        }
        for (int row = 0; row < rows; row++) {
            x.row(0, 2 * row);
            for (int name = 0; name < names; name++) {
                x.factor(row, name, (3 * row + 5 * name) % 7 - 3);
            }
        }
        if (dropped >= 0) {
            x.drop(dropped);
        }
    }

    private ExactSimplex built() {
        ExactSimplex x = new ExactSimplex();
        state.build.accept(x);
        return x;
    }

    /** All that can be asked, then changes that bring to light what was told before, and all once more. */
    private static List<Long> later(ExactSimplex x, boolean asked) {
        List<Long> answers = new ArrayList<>();
        if (asked) {
            askAll(x, new ArrayList<>());
        }
        askAll(x, answers);
        answers.add((long) x.name(-1, 1));
        answers.add((long) x.row(2, -3));
        int last = x.told(2) - 1;
        for (int name = 0; name < x.told(0); name++) {
            answers.add((long) x.factor(last, name, 1));
        }
        askAll(x, answers);
        for (int name = 0; name < 5; name++) {
            answers.add((long) x.cost(name, 1));
        }
        for (int row = 0; row < 8; row++) {
            answers.add((long) x.drop(row));
        }
        askAll(x, answers);
        answers.add((long) x.clear());
        answers.add((long) x.name(2, 3));
        answers.add((long) x.row(0, 1));
        askAll(x, answers);
        return answers;
    }

    private static void askAll(ExactSimplex x, List<Long> answers) {
        for (int what = 0; what < 3; what++) {
            answers.add((long) x.told(what));
        }
        answers.add((long) x.run());
        answers.add((long) x.whole());
        answers.add((long) x.isWhole());
        for (int row = 0; row < 8; row++) {
            answers.add((long) x.tight(row));
            answers.add((long) x.barred(row));
        }
        for (int part = 0; part < 2; part++) {
            answers.add(x.least(part));
            for (int name = 0; name < 5; name++) {
                answers.add(x.value(name, part));
                answers.add(x.reach(name, 0, part));
                answers.add(x.reach(name, 1, part));
                answers.add(x.far(name, 0, part));
                answers.add(x.far(name, 1, part));
            }
        }
        for (int name = 0; name < 5; name++) {
            answers.add((long) x.wholeValue(name));
        }
    }

    /** A call that changes something unless it is refused: what it answers then is due too. */
    private void changing(Call call, long refusal, long answer) {
        about(state.title);
        if (refusal != NOT_REFUSED) {
            changesNothing(call, refusal);
        } else {
            isSeenAtOnce(call, answer);
        }
    }

    /** What was asked before a change has no part in what is answered after it. */
    private void isSeenAtOnce(Call call, long answer) {
        ExactSimplex x = built();
        due(call.text, call.make.applyAsLong(x), answer);
        ExactSimplex y = built();
        askAll(y, new ArrayList<>());
        due(call.text + ", all else asked before", call.make.applyAsLong(y), answer);
        due("seen at once: " + call.text, sameAs(later(x, false), later(y, false)), 1);
    }

    /** A call that only asks; what it answers if it is not refused is other tests' concern. */
    private void changesNothing(Call call, long refusal) {
        about(state.title);
        ExactSimplex x = built();
        long got = call.make.applyAsLong(x);
        due(call.text, got, refusal == NOT_REFUSED ? got : refusal);
        due("as before after " + call.text, sameAs(untouched, later(x, false)), 1);
        ExactSimplex y = built();
        askAll(y, new ArrayList<>());
        due(call.text + ", all else asked before", call.make.applyAsLong(y), got);
        due("as before after the same", sameAs(untouchedAndAsked, later(y, false)), 1);
    }

    private static int sameAs(List<Long> answers, List<Long> others) {
        return answers.equals(others) ? 1 : 0;
    }

    private static long firstOf(boolean noSuch, boolean outside, boolean noPoint, boolean noRoom) {
        return noSuch ? -1 : outside ? -2 : noPoint ? -3 : noRoom ? -4 : NOT_REFUSED;
    }

    private static boolean isOutside(int v, int low, int high) {
        return v < low || v > high;
    }

    private static boolean isNoSpan(int low, int high) {
        return isOutside(low, -100, 100) || isOutside(high, -100, 100) || low > high;
    }

    private void name() {
        for (int low : ENDS) {
            for (int high : ENDS) {
                changing(new Call("name(" + low + ", " + high + ")", x -> x.name(low, high)),
                        firstOf(false, isNoSpan(low, high), false, state.names == 5), state.names);
            }
        }
    }

    private void span() {
        for (int name : NUMBERS) {
            for (int low : ENDS) {
                for (int high : ENDS) {
                    changing(new Call("span(" + name + ", " + low + ", " + high + ")", x -> x.span(name, low, high)),
                            firstOf(!state.hasName(name), isNoSpan(low, high), false, false), 1);
                }
            }
        }
    }

    private void cost() {
        for (int name : NUMBERS) {
            for (int v : new int[] {MIN, -100, -99, 0, 99, 100, MAX}) {
                changing(new Call("cost(" + name + ", " + v + ")", x -> x.cost(name, v)),
                        firstOf(!state.hasName(name), isOutside(v, -99, 99), false, false),
                        state.hasName(name) ? COSTS[name] : 0);
            }
        }
    }

    private void row() {
        for (int sense : SMALL) {
            for (int right : RIGHTS) {
                changing(new Call("row(" + sense + ", " + right + ")", x -> x.row(sense, right)),
                        firstOf(false, isOutside(sense, 0, 2) || isOutside(right, -1000, 1000), false, state.rows == 8),
                        state.rows);
            }
        }
    }

    private void right() {
        for (int row : NUMBERS) {
            for (int v : RIGHTS) {
                changing(new Call("right(" + row + ", " + v + ")", x -> x.right(row, v)),
                        firstOf(!state.hasRow(row), isOutside(v, -1000, 1000), false, false), 1);
            }
        }
    }

    private void factor() {
        for (int row : NUMBERS) {
            for (int name : NUMBERS) {
                for (int v : new int[] {MIN, -10, -9, 9, 10, MAX}) {
                    changing(new Call("factor(" + row + ", " + name + ", " + v + ")", x -> x.factor(row, name, v)),
                            firstOf(!state.hasRow(row) || !state.hasName(name), isOutside(v, -9, 9), false, false), 1);
                }
            }
        }
    }

    private void drop() {
        for (int row = -1; row <= 8; row++) {
            int number = row;
            changing(new Call("drop(" + row + ")", x -> x.drop(number)),
                    firstOf(!state.hasRow(row), false, false, false), state.standing() - 1);
        }
        changing(new Call("drop(MIN)", x -> x.drop(MIN)), -1, 0);
        changing(new Call("drop(MAX)", x -> x.drop(MAX)), -1, 0);
    }

    private void clear() {
        changing(new Call("clear()", x -> x.clear()), NOT_REFUSED, state.names);
    }

    private void run() {
        changesNothing(new Call("run()", x -> x.run()), state.point ? 1 : 0);
    }

    private void least() {
        for (int part : SMALL) {
            changesNothing(new Call("least(" + part + ")", x -> x.least(part)),
                    firstOf(false, isOutside(part, 0, 1), !state.point, false));
        }
    }

    private void value() {
        for (int name : NUMBERS) {
            for (int part : SMALL) {
                changesNothing(new Call("value(" + name + ", " + part + ")", x -> x.value(name, part)),
                        firstOf(!state.hasName(name), isOutside(part, 0, 1), !state.point, false));
            }
        }
    }

    private void tight() {
        for (int row = -1; row <= 8; row++) {
            int number = row;
            changesNothing(new Call("tight(" + row + ")", x -> x.tight(number)),
                    firstOf(!state.hasRow(row), false, !state.point, false));
        }
        changesNothing(new Call("tight(MIN)", x -> x.tight(MIN)), -1);
        changesNothing(new Call("tight(MAX)", x -> x.tight(MAX)), -1);
    }

    private void reach() {
        for (int name : NUMBERS) {
            for (int side : SMALL) {
                for (int part : SMALL) {
                    changesNothing(new Call("reach(" + name + ", " + side + ", " + part + ")",
                            x -> x.reach(name, side, part)), refusalOfEnd(name, side, part));
                }
            }
        }
    }

    private void far() {
        for (int name : NUMBERS) {
            for (int side : SMALL) {
                for (int part : SMALL) {
                    changesNothing(new Call("far(" + name + ", " + side + ", " + part + ")",
                            x -> x.far(name, side, part)), refusalOfEnd(name, side, part));
                }
            }
        }
    }

    private long refusalOfEnd(int name, int side, int part) {
        boolean outside = isOutside(side, 0, 1) || isOutside(part, 0, 1);
        return firstOf(!state.hasName(name), outside, !state.point, false);
    }

    /** Its promise tells -3 before -1: where there is a point there are no places at all. */
    private void barred() {
        for (int k : NUMBERS) {
            long refusal = state.point ? -3 : k < 0 || k >= state.standing() ? -1 : NOT_REFUSED;
            changesNothing(new Call("barred(" + k + ")", x -> x.barred(k)), refusal);
        }
    }

    private long refusalOfWhole() {
        return state.tooMany ? -4 : state.wholePoint ? NOT_REFUSED : -3;
    }

    private void whole() {
        changesNothing(new Call("whole()", x -> x.whole()), refusalOfWhole());
    }

    private void wholeValue() {
        for (int name : NUMBERS) {
            changesNothing(new Call("wholeValue(" + name + ")", x -> x.wholeValue(name)),
                    state.hasName(name) ? refusalOfWhole() : -1);
        }
    }

    private void isWhole() {
        changesNothing(new Call("isWhole()", x -> x.isWhole()), state.tooMany ? -4 : state.wholePoint ? 1 : 0);
    }

    private void told() {
        for (int what : SMALL) {
            long due = what == 0 ? state.names : what == 1 ? state.standing() : what == 2 ? state.rows : -2;
            changesNothing(new Call("told(" + what + ")", x -> x.told(what)), due);
        }
    }
}
