/** Promises 1 (a new object), 2 (point) and 23 (count). */
public final class PointsTest {
    private static final long[] DOWNS = {1, 2, 3, 4, 6, 12};

    public static void main(String[] args) {
        Due due = new Due();
        newObject(due);
        downs(due);
        refused(due);
        full(due);
        counts(due);
        due.end();
    }

    private static void newObject(Due due) {
        OrderJudge x = new OrderJudge();
        due.is("new: count(0)", x.count(0), 0);
        due.is("new: count(1)", x.count(1), 0);
        due.is("new: count(2)", x.count(2), 0);
        due.is("new: count(3)", x.count(3), 1);
        due.is("new: decided(0)", x.decided(0), 0);
        due.is("new: decided(1)", x.decided(1), 0);
        due.is("new: decided(2)", x.decided(2), 0);
        due.is("new: side(0, 0, 0)", x.side(0, 0, 0), -2);
        due.is("new: order(1, 0)", x.order(1, 0), -2);
        due.is("new: lines(0, 2)", x.lines(0, 2), 1);
        due.is("new: lines(1, 2)", x.lines(1, 2), -2);
        due.throwing("new: at(0, 0)", ArrayIndexOutOfBoundsException.class, () -> x.at(0, 0));
        due.is("new: size(2)", x.size(2), 0);
        due.is("new: filter(false)", x.filter(false), 1);
        OrderJudge other = new OrderJudge();
        other.point(1, 1, 1);
        due.is("one object knows nothing of another", x.count(0), 0);
        due.is("the filter of another object", other.count(3), 1);
    }

    private static void downs(Due due) {
        OrderJudge x = new OrderJudge();
        x.size(1);
        int number = 0;
        for (long down : DOWNS) {
            due.is("point(-800, 799, " + down + ")", x.point(-800, 799, down), number);
            x.of(0, number);
            due.is("X, down " + down, x.at(0, 0), -800 * (12 / down));
            due.is("Y, down " + down, x.at(0, 1), 799 * (12 / down));
            number++;
        }
        due.is("point(800, -800, 1)", x.point(800, -800, 1), number);
        due.is("an equal point has a number of its own", x.point(800, -800, 1), number + 1);
    }

    private static void refused(Due due) {
        OrderJudge x = new OrderJudge();
        long[] badDowns = {0, -1, 5, 7, 8, 9, 10, 11, 13, 24, -12, 4294967297L, 4294967308L, Long.MIN_VALUE, Long.MAX_VALUE};
        for (long down : badDowns) {
            due.is("point(0, 0, " + down + ")", x.point(0, 0, down), -2);
        }
        long[] badPlaces = {801, -801, 4294967296L, -4294967296L, Long.MIN_VALUE, Long.MAX_VALUE};
        for (long v : badPlaces) {
            due.is("point(" + v + ", 0, 12)", x.point(v, 0, 12), -2);
            due.is("point(0, " + v + ", 12)", x.point(0, v, 12), -2);
        }
        due.is("refused points are none", x.count(0), 0);
        due.is("the first point after refusals", x.point(0, 0, 1), 0);
    }

    private static void full(Due due) {
        OrderJudge x = new OrderJudge();
        for (int i = 0; i < 60; i++) {
            due.is("point " + i, x.point(i, -i, 1), i);
        }
        due.is("point 60", x.point(0, 0, 1), -3);
        due.is("BAD is told ahead of FULL", x.point(801, 0, 1), -2);
        due.is("BAD down ahead of FULL", x.point(0, 0, 5), -2);
        due.is("60 points", x.count(0), 60);
        due.is("side(0, 59, 30)", x.side(0, 59, 30), 0);
        due.is("side(0, 59, 60)", x.side(0, 59, 60), -2);
    }

    private static void counts(Due due) {
        OrderJudge x = Due.withPoints(1, 0, 0, 1, 0, 0, 1);
        x.size(5);
        x.line(0, 1);
        x.line(1, 2);
        x.filter(false);
        due.is("count(0)", x.count(0), 3);
        due.is("count(1)", x.count(1), 5);
        due.is("count(2)", x.count(2), 2);
        due.is("count(3)", x.count(3), 0);
        x.filter(true);
        due.is("count(3), on again", x.count(3), 1);
        int[] bad = {-1, 4, Integer.MIN_VALUE, Integer.MAX_VALUE};
        for (int what : bad) {
            due.is("count(" + what + ")", x.count(what), -2);
        }
    }
}
