import java.util.ArrayList;
import java.util.List;

/**
 * "What is refused changes nothing": of two objects made alike one gets a refused call more; then all
 * that can be asked of both must be answered alike. The same holds for calls that only ask.
 */
public final class RefusedTest {
    private static final int BAD = -2, FULL = -3, NOT = -4;
    private static final long NEGATIVE = Model.THROWS_NEGATIVE, INDEX = Model.THROWS_INDEX, NULL = Model.THROWS_NULL, ARITHMETIC = Model.THROWS_ARITHMETIC;

    /** One call on an object. */
    interface Call {
        long on(OrderJudge x);
    }

    /** A call, what it is due to answer, and how it is told. */
    record Told(String told, long want, Call call) {
    }

    /** How the two objects are made. */
    enum State {
        NEW, ORDINARY, GAPS, OFF, FULL_UP;

        OrderJudge make() {
            OrderJudge x = new OrderJudge();
            if (this == NEW) {
                return x;
            }
            // 0 to 3 a square, 4 its middle, 5 EQUAL to 0, 6 on no circle with others, 7 far away.
            Due.addPoints(x, 2, 0, 0, 8, 0, 8, 8, 0, 8, 4, 4, 0, 0, 3, 1, -800, 799);
            for (int i = 8; this == FULL_UP && i < 60; i++) {
                x.point(i, i * i % 31, 3);
            }
            if (this == FULL_UP) {
                putMany(x);
            } else {
                Due.putRow(x, 0, 1, 2, 3, this == GAPS ? -1 : 7);
            }
            x.line(0, 2);
            x.line(1, 3);
            x.line(4, 6);
            for (int i = 3; this == FULL_UP && i < 11; i++) {
                x.line(i, i + 20);
            }
            // The last one is the first one again: were it another, lines() would tell.
            if (this == FULL_UP) {
                x.line(2, 0);
            }
            x.side(0, 1, 2);
            x.side(0, 4, 2);
            x.circle(0, 1, 2, 3);
            x.circle(0, 1, 2, 4);
            x.circle(0, 1, 2, 7);
            x.filter(this != OFF);
            return x;
        }

        private static void putMany(OrderJudge x) {
            x.size(24);
            for (int i = 0; i < 24; i++) {
                x.of(i, 59 - i);
            }
        }
    }

    private final Due due;
    private final State state;
    private final int points;
    private final int places;
    private final int lines;
    private final List<Told> calls = new ArrayList<>();

    private RefusedTest(Due due, State state) {
        this.due = due;
        this.state = state;
        OrderJudge x = state.make();
        points = x.count(0);
        places = x.count(1);
        lines = x.count(2);
    }

    public static void main(String[] args) {
        Due due = new Due();
        for (State state : State.values()) {
            RefusedTest test = new RefusedTest(due, state);
            test.refusedOfPointsAndRow();
            test.refusedOfFew();
            test.refusedOfRowOrders();
            test.refusedOfLines();
            if (state != State.NEW) {
                test.refusedWithPoints();
                test.onlyAsked();
            }
            test.play();
        }
        due.end();
    }

    private void add(String told, long want, Call call) {
        calls.add(new Told(told, want, call));
    }

    private void play() {
        List<Long> untouched = all(state.make());
        for (Told t : calls) {
            OrderJudge x = state.make();
            String told = state + ": " + t.told();
            due.is(told, answer(x, t.call()), t.want());
            due.is(told + ", said again", answer(x, t.call()), t.want());
            same(told, all(x), untouched);
        }
        // All of them on few objects, so that what one hides the next ones may show; 512 calls are an object's most.
        for (int from = 0; from < calls.size(); from += 60) {
            OrderJudge x = state.make();
            for (Told t : calls.subList(from, Math.min(calls.size(), from + 60))) {
                due.is(state + ", one after the other: " + t.told(), answer(x, t.call()), t.want());
            }
            same(state + ", many refused calls", all(x), untouched);
        }
    }

    private void same(String told, List<Long> got, List<Long> want) {
        due.is(told + ": as many answers behind it", got.size(), want.size());
        for (int i = 0; i < Math.min(got.size(), want.size()); i++) {
            due.is(told + ": answer " + i + " behind it", got.get(i), want.get(i));
        }
    }

    /** All that can be seen of an object, at last by calls that change it. */
    private List<Long> all(OrderJudge x) {
        List<Long> seen = new ArrayList<>();
        for (int what = 0; what < 4; what++) {
            seen.add((long) x.count(what));
        }
        for (int what = 0; what < 3; what++) {
            seen.add((long) x.decided(what));
        }
        for (int i = 0; i <= places; i++) {
            int place = i;
            seen.add(answer(x, o -> o.at(place, 2)));
        }
        for (int what = 0; what < 6; what++) {
            for (int n = lines % 2; n <= lines; n += 2) {
                seen.add((long) x.lines(n, what));
            }
        }
        seen.add((long) x.side(0, 1, 2));
        seen.add((long) x.circle(0, 1, 2, 7));
        seen.add((long) x.decided(0));
        seen.add((long) x.decided(1));
        seen.add((long) x.filter(true));
        seen.add((long) x.size(1));
        for (int p = 0; p <= points; p++) {
            int point = p;
            seen.add(answer(x, o -> o.of(0, point)));
            seen.add(answer(x, o -> o.at(0, 0)));
            seen.add(answer(x, o -> o.at(0, 1)));
        }
        seen.add((long) x.point(1, 2, 3));
        seen.add((long) x.line(0, 1));
        seen.add((long) x.lines(x.count(2), 2));
        return seen;
    }

    private static long answer(OrderJudge x, Call call) {
        try {
            return call.on(x);
        } catch (NegativeArraySizeException e) {
            return NEGATIVE;
        } catch (ArrayIndexOutOfBoundsException e) {
            return INDEX;
        } catch (NullPointerException e) {
            return NULL;
        } catch (ArithmeticException e) {
            return ARITHMETIC;
        }
    }

    private void refusedOfPointsAndRow() {
        long[][] bad = {{801, 0, 1}, {-801, 0, 1}, {0, 801, 12}, {0, -801, 12}, {0, 0, 0}, {0, 0, 5}, {0, 0, -1}, {0, 0, 24}, {Long.MIN_VALUE, 0, 1}, {0, Long.MAX_VALUE, 1}, {1, 1, Long.MIN_VALUE}};
        for (long[] v : bad) {
            add("point(" + v[0] + ", " + v[1] + ", " + v[2] + ")", BAD, x -> x.point(v[0], v[1], v[2]));
        }
        if (points == 60) {
            add("point(0, 0, 1)", FULL, x -> x.point(0, 0, 1));
        }
        for (int n : new int[] {25, 26, 256, Integer.MAX_VALUE}) {
            add("size(" + n + ")", BAD, x -> x.size(n));
        }
        for (int n : new int[] {-1, -2, -25, Integer.MIN_VALUE}) {
            add("size(" + n + ")", NEGATIVE, x -> x.size(n));
        }
        for (int i : new int[] {-1, places, places + 1, 24, Integer.MIN_VALUE, Integer.MAX_VALUE}) {
            add("of(" + i + ", NONE)", INDEX, x -> x.of(i, -1));
            add("of(" + i + ", no point)", BAD, x -> x.of(i, points));
            add("at(" + i + ", 0)", INDEX, x -> x.at(i, 0));
            add("at(" + i + ", 2)", INDEX, x -> x.at(i, 2));
            if (points > 0) {
                add("of(" + i + ", 0)", INDEX, x -> x.of(i, 0));
            }
        }
        for (int p : new int[] {-2, points, 60, Integer.MIN_VALUE, Integer.MAX_VALUE}) {
            if (places > 0) {
                add("of(0, " + p + ")", BAD, x -> x.of(0, p));
                add("of(last, " + p + ")", BAD, x -> x.of(places - 1, p));
            }
        }
        if (state == State.GAPS) {
            for (int what = -1; what < 4; what++) {
                int asked = what;
                add("at(4, " + what + ")", NULL, x -> x.at(4, asked));
            }
        }
        for (int what : new int[] {-1, 3, 4, Integer.MIN_VALUE, Integer.MAX_VALUE}) {
            add("decided(" + what + ")", BAD, x -> x.decided(what));
            add("count(" + (what == 3 ? 5 : what) + ")", BAD, x -> x.count(what == 3 ? 5 : what));
        }
    }

    private void refusedOfFew() {
        for (int p : new int[] {-1, points, 60, Integer.MIN_VALUE, Integer.MAX_VALUE}) {
            add("side(" + p + ", 0, 1)", BAD, x -> x.side(p, 0, 1));
            add("side(0, " + p + ", 1)", BAD, x -> x.side(0, p, 1));
            add("side(0, 1, " + p + ")", BAD, x -> x.side(0, 1, p));
            add("circle(" + p + ", 0, 1, 2)", BAD, x -> x.circle(p, 0, 1, 2));
            add("circle(0, " + p + ", 1, 2)", BAD, x -> x.circle(0, p, 1, 2));
            add("circle(0, 1, " + p + ", 2)", BAD, x -> x.circle(0, 1, p, 2));
            add("circle(0, 1, 2, " + p + ")", BAD, x -> x.circle(0, 1, 2, p));
            add("between(" + p + ", 0, 1)", BAD, x -> x.between(p, 0, 1));
            add("between(0, " + p + ", 1)", BAD, x -> x.between(0, p, 1));
            add("between(0, 1, " + p + ")", BAD, x -> x.between(0, 1, p));
            add("inside(" + p + ", 0, 1, 2)", BAD, x -> x.inside(p, 0, 1, 2));
            add("inside(0, " + p + ", 1, 2)", BAD, x -> x.inside(0, p, 1, 2));
            add("inside(0, 1, " + p + ", 2)", BAD, x -> x.inside(0, 1, p, 2));
            add("inside(0, 1, 2, " + p + ")", BAD, x -> x.inside(0, 1, 2, p));
            add("cross(" + p + ", 0, 1, 2)", BAD, x -> x.cross(p, 0, 1, 2));
            add("cross(0, " + p + ", 1, 2)", BAD, x -> x.cross(0, p, 1, 2));
            add("cross(0, 1, " + p + ", 2)", BAD, x -> x.cross(0, 1, p, 2));
            add("cross(0, 1, 2, " + p + ")", BAD, x -> x.cross(0, 1, 2, p));
            add("separated(" + p + ", 0, 1, 2)", BAD, x -> x.separated(p, 0, 1, 2));
            add("separated(0, " + p + ", 1, 2)", BAD, x -> x.separated(0, p, 1, 2));
            add("separated(0, 1, " + p + ", 2)", BAD, x -> x.separated(0, 1, p, 2));
            add("separated(0, 1, 2, " + p + ")", BAD, x -> x.separated(0, 1, 2, p));
        }
    }

    private void refusedOfRowOrders() {
        for (int n : new int[] {0, -1, places + 1, 25, Integer.MIN_VALUE, Integer.MAX_VALUE}) {
            add("convex(" + n + ")", BAD, x -> x.convex(n));
            add("polygon(" + n + ", 0)", BAD, x -> x.polygon(n, 0));
            add("winding(" + n + ", 0)", -100, x -> x.winding(n, 0));
            add("nearest(0, " + n + ")", BAD, x -> x.nearest(0, n));
            add("around(0, " + n + ", 0)", BAD, x -> x.around(0, n, 0));
            add("order(" + n + ", 0)", BAD, x -> x.order(n, 0));
            add("area(" + n + ", 1)", 0, x -> x.area(n, 1));
            add("area(" + n + ", 0)", 0, x -> x.area(n, 0));
        }
        for (int p : new int[] {-1, points, Integer.MIN_VALUE, Integer.MAX_VALUE}) {
            add("polygon(places, " + p + ")", BAD, x -> x.polygon(places, p));
            add("winding(places, " + p + ")", -100, x -> x.winding(places, p));
            add("nearest(" + p + ", places)", BAD, x -> x.nearest(p, places));
            add("around(" + p + ", places, 0)", BAD, x -> x.around(p, places, 0));
        }
        for (int i : new int[] {-1, places, places + 1, Integer.MIN_VALUE, Integer.MAX_VALUE}) {
            add("around(0, places, " + i + ")", BAD, x -> x.around(0, places, i));
            add("order(places, " + i + ")", BAD, x -> x.order(places, i));
        }
        add("convex(1)", BAD, x -> x.convex(1));
        add("convex(2)", BAD, x -> x.convex(2));
    }

    private void refusedOfLines() {
        for (int p : new int[] {-1, points, 60, Integer.MIN_VALUE, Integer.MAX_VALUE}) {
            add("line(" + p + ", 0)", BAD, x -> x.line(p, 0));
            add("line(0, " + p + ")", BAD, x -> x.line(0, p));
            add("line(" + p + ", " + p + ")", BAD, x -> x.line(p, p));
        }
        for (int n : new int[] {-1, lines + 1, 13, Integer.MIN_VALUE, Integer.MAX_VALUE}) {
            for (int what = 0; what < 6; what++) {
                int asked = what;
                add("lines(" + n + ", " + what + ")", BAD, x -> x.lines(n, asked));
            }
        }
        for (int what : new int[] {-1, 6, Integer.MIN_VALUE, Integer.MAX_VALUE}) {
            add("lines(0, " + what + ")", BAD, x -> x.lines(0, what));
            add("lines(all, " + what + ")", BAD, x -> x.lines(lines, what));
        }
    }

    private void refusedWithPoints() {
        add("side, a is b", NOT, x -> x.side(2, 2, 1));
        add("side, a and b EQUAL", NOT, x -> x.side(0, 5, 1));
        add("circle, in line", NOT, x -> x.circle(0, 4, 2, 1));
        add("circle, EQUAL", NOT, x -> x.circle(0, 5, 2, 1));
        add("circle, all the same", NOT, x -> x.circle(0, 0, 0, 0));
        add("inside, b EQUAL to a", NOT, x -> x.inside(0, 5, 1, 2));
        add("inside, c EQUAL to a", NOT, x -> x.inside(0, 1, 5, 2));
        add("separated, two EQUAL", NOT, x -> x.separated(0, 1, 2, 5));
        add("separated, on no circle", NOT, x -> x.separated(0, 1, 2, 6));
        add("separated, three in line", NOT, x -> x.separated(0, 4, 2, 1));
        add("line, EQUAL", NOT, x -> x.line(5, 0));
        add("line, the same", NOT, x -> x.line(3, 3));
        if (lines == 12) {
            add("line(0, 1)", FULL, x -> x.line(0, 1));
        }
        add("area(1, 0)", ARITHMETIC, x -> x.area(1, 0));
        if (state != State.GAPS) {
            add("area(places, 0)", ARITHMETIC, x -> x.area(places, 0));
            return;
        }
        add("convex(5)", NOT, x -> x.convex(5));
        add("polygon(5, 0)", NOT, x -> x.polygon(5, 0));
        add("winding(5, 0)", -100, x -> x.winding(5, 0));
        add("nearest(0, 5)", NOT, x -> x.nearest(0, 5));
        add("around(0, 5, 4)", NOT, x -> x.around(0, 5, 4));
        add("order(5, 4)", NOT, x -> x.order(5, 4));
        add("area(5, 1)", 0, x -> x.area(5, 1));
        add("area(5, 0)", 0, x -> x.area(5, 0));
    }

    // Not refused, but of calls of which the document tells no change; with side() and circle() decided() alone changes.
    private void onlyAsked() {
        add("between", 1, x -> x.between(0, 4, 2));
        add("inside", 1, x -> x.inside(0, 1, 3, 4));
        add("cross", 1, x -> x.cross(0, 2, 1, 3));
        add("separated", 1, x -> x.separated(0, 2, 1, 3));
        add("lines(0, 2)", 1, x -> x.lines(0, 2));
        add("lines(2, 1)", 1, x -> x.lines(2, 1));
        add("lines(1, 4)", 0, x -> x.lines(1, 4));
        add("count(0)", points, x -> x.count(0));
        add("decided(2)", 2, x -> x.decided(2));
        if (state == State.FULL_UP) {
            add("nearest(59, 24)", 1, x -> x.nearest(59, 24));
            add("at(23, 2)", 36, x -> x.at(23, 2));
            return;
        }
        add("at(3, 1)", 48, x -> x.at(3, 1));
        add("convex(4)", 1, x -> x.convex(4));
        add("polygon(4, 4)", 1, x -> x.polygon(4, 4));
        add("winding(4, 4)", 1, x -> x.winding(4, 4));
        add("nearest(4, 4)", 15, x -> x.nearest(4, 4));
        add("around(4, 4, 0)", 2, x -> x.around(4, 4, 0));
        add("order(4, 3)", 2, x -> x.order(4, 3));
        add("area(4, 1)", 2 * 48 * 48, x -> x.area(4, 1));
    }
}
