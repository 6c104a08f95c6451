/** Promises 14 (convex), 15 (polygon), 16 (winding), 17 (nearest), 18 (around), 19 (order) and 20 (area). */
public final class RowOrdersTest {
    private static final int[] NO_POINTS = {-1, 60, Integer.MIN_VALUE, Integer.MAX_VALUE};

    public static void main(String[] args) {
        Due due = new Due();
        convexRows(due);
        polygonsAndWindings(due);
        cornersAtTheHeightOfThePoint(due);
        edgesThatCrossThemselves(due);
        shortRows(due);
        nearestPlaces(due);
        roundAPoint(due);
        sorted(due);
        areas(due);
        refusals(due);
        due.end();
    }

    private static void convexRows(Due due) {
        OrderJudge x = Due.withPoints(1, 0, 0, 4, 0, 4, 4, 0, 4, 2, 0, 1, 1, 0, 0);
        due.is("to the left", convex(x, 0, 1, 2, 3), 1);
        due.is("to the right", convex(x, 3, 2, 1, 0), -1);
        due.is("three", convex(x, 0, 1, 2), 1);
        due.is("three, to the right", convex(x, 0, 2, 1), -1);
        due.is("three in line", convex(x, 0, 4, 1), 0);
        due.is("one on an edge", convex(x, 0, 4, 1, 2, 3), 0);
        due.is("one pushed in", convex(x, 0, 1, 2, 3, 5), 0);
        due.is("it crosses itself", convex(x, 0, 2, 1, 3), 0);
        due.is("EQUAL places", convex(x, 0, 1, 2, 6), 0);
        due.is("EQUAL places, one after the other", convex(x, 0, 6, 1, 2), 0);
        OrderJudge star = Due.withPoints(1, 0, 10, -9, 3, -6, -8, 6, -8, 9, 3);
        due.is("five round", convex(star, 0, 1, 2, 3, 4), 1);
        due.is("a star of five turns to the left all over, but lies on both sides", convex(star, 0, 2, 4, 1, 3), 0);
        Due.putRow(x, 0, 1, 2, 3, 5);
        due.is("only the first n count", x.convex(4), 1);
        due.is("with the last one", x.convex(5), 0);
        x.of(4, -1);
        due.is("NONE behind the first n", x.convex(4), 1);
        due.is("NONE among the first n", x.convex(5), -4);
        int[] bad = {6, 2, 1, 0, -1, Integer.MIN_VALUE, Integer.MAX_VALUE};
        for (int n : bad) {
            due.is("convex(" + n + ")", x.convex(n), -2);
        }
        x.of(0, -1);
        due.is("BAD is told ahead of NOT", x.convex(2), -2);
    }

    private static int convex(OrderJudge x, int... points) {
        Due.putRow(x, points);
        return x.convex(points.length);
    }

    // A house with a deep valley; point 9 and on are asked for.
    private static void polygonsAndWindings(Due due) {
        OrderJudge x = Due.withPoints(1, 0, 0, 8, 0, 8, 8, 4, 2, 0, 8);
        int asked = 5;
        int[][] at = {{4, 1, 1}, {4, 2, 2}, {4, 3, 0}, {1, 2, 1}, {7, 2, 1}, {0, 0, 2}, {8, 8, 2}, {8, 4, 2}, {4, 0, 2},
            {-1, 0, 0}, {9, 0, 0}, {-1, 2, 0}, {9, 2, 0}, {-1, 8, 0}, {4, 8, 0}, {9, 8, 0}, {6, 5, 2}, {4, -1, 0}, {4, 9, 0}, {0, 8, 2}};
        for (int[] p : at) {
            x.point(p[0], p[1], 1);
        }
        for (int i = 0; i < at.length; i++) {
            String where = "(" + at[i][0] + ", " + at[i][1] + ")";
            Due.putRow(x, 0, 1, 2, 3, 4);
            due.is("polygon at " + where, x.polygon(5, asked + i), at[i][2]);
            due.is("winding at " + where, x.winding(5, asked + i), at[i][2] == 2 ? 100 : at[i][2]);
            Due.putRow(x, 4, 3, 2, 1, 0);
            due.is("polygon, back, at " + where, x.polygon(5, asked + i), at[i][2]);
            due.is("winding, back, at " + where, x.winding(5, asked + i), at[i][2] == 2 ? 100 : -at[i][2]);
        }
    }

    // Corners and level edges on both sides, just as high as the points asked for.
    private static void cornersAtTheHeightOfThePoint(Due due) {
        OrderJudge x = Due.withPoints(1, -4, 0, 0, -4, 4, 0, 0, 4, 0, 0, -6, 0, 6, 0, 8, -4, 8, 4, 0, 5, 2, 0);
        Due.putRow(x, 0, 1, 2, 3);
        due.is("a diamond: its middle", x.winding(4, 4), 1);
        due.is("a diamond: its middle, odd", x.polygon(4, 4), 1);
        due.is("a diamond: to the left of it", x.winding(4, 5), 0);
        due.is("a diamond: to the left of it, even", x.polygon(4, 5), 0);
        due.is("a diamond: to the right of it", x.winding(4, 6), 0);
        due.is("a diamond: level with its top", x.winding(4, 8), 0);
        due.is("a diamond: level with its foot", x.winding(4, 7), 0);
        due.is("a diamond: above it", x.polygon(4, 9), 0);
        Due.putRow(x, 3, 2, 1, 0);
        due.is("a diamond, back: its middle", x.winding(4, 4), -1);
        due.is("a diamond, back: to the left of it", x.winding(4, 5), 0);
        // A tooth that comes down to the height of the point, and one that goes up to it.
        OrderJudge teeth = Due.withPoints(1, 0, -4, 4, 0, 6, -4, 8, 6, 4, 0, 0, 6, 1, 0, 6, 0, -1, 0, 9, 0);
        Due.putRow(teeth, 0, 1, 2, 3, 4, 5);
        due.is("teeth: on the left", teeth.winding(6, 6), 1);
        due.is("teeth: on the right", teeth.polygon(6, 7), 1);
        due.is("teeth: before them", teeth.polygon(6, 8), 0);
        due.is("teeth: behind them", teeth.polygon(6, 9), 0);
        OrderJudge steps = Due.withPoints(1, 0, 0, 2, 0, 2, 3, 5, 3, 5, 6, 0, 6, 1, 3, 6, 3, -1, 3, 3, 4, 3, 2);
        Due.putRow(steps, 0, 1, 2, 3, 4, 5);
        due.is("steps: level with an edge, within", steps.winding(6, 6), 1);
        due.is("steps: level with an edge, to the right", steps.polygon(6, 7), 0);
        due.is("steps: level with an edge, to the left", steps.polygon(6, 8), 0);
        due.is("steps: above an edge", steps.polygon(6, 9), 1);
        due.is("steps: under an edge", steps.polygon(6, 10), 0);
    }

    private static void edgesThatCrossThemselves(Due due) {
        OrderJudge x = Due.withPoints(1, 0, 0, 4, 0, 4, 4, 0, 4, 2, 2, 1, 2, 3, 2);
        Due.putRow(x, 0, 1, 2, 3, 0, 1, 2, 3);
        due.is("twice round: even", x.polygon(8, 5), 0);
        due.is("twice round", x.winding(8, 5), 2);
        due.is("of the first four alone", x.winding(4, 5), 1);
        Due.putRow(x, 3, 2, 1, 0, 3, 2, 1, 0, 3, 2, 1, 0);
        due.is("three times round to the right: odd", x.polygon(12, 5), 1);
        due.is("three times round to the right", x.winding(12, 5), -3);
        Due.putRow(x, 0, 1, 2, 3, 3, 2, 1, 0);
        due.is("round and back: even", x.polygon(8, 5), 0);
        due.is("round and back", x.winding(8, 5), 0);
        Due.putRow(x, 0, 2, 3, 1);
        due.is("where it crosses itself it lies on an edge", x.polygon(4, 4), 2);
        due.is("where it crosses itself", x.winding(4, 4), 100);
        OrderJudge bow = Due.withPoints(1, 0, 0, 4, 4, 4, 0, 0, 4, 1, 2, 3, 2);
        Due.putRow(bow, 0, 1, 2, 3);
        due.is("the bow's left wing goes to the left", bow.winding(4, 4), 1);
        due.is("the bow's left wing: odd", bow.polygon(4, 4), 1);
        due.is("the bow's right wing: odd", bow.polygon(4, 5), 1);
        due.is("the bow's right wing goes to the right", bow.winding(4, 5), -1);
    }

    private static void shortRows(Due due) {
        OrderJudge x = Due.withPoints(1, 0, 0, 4, 2, 2, 1, 6, 3, 0, 0, 1, 1);
        Due.putRow(x, 0, 1);
        due.is("one place: on it", x.polygon(1, 4), 2);
        due.is("one place: off it", x.polygon(1, 2), 0);
        due.is("one place: on it", x.winding(1, 4), 100);
        due.is("one place: off it", x.winding(1, 2), 0);
        due.is("two places: on the edge", x.polygon(2, 2), 2);
        due.is("two places: beyond it", x.polygon(2, 3), 0);
        due.is("two places: beside it", x.polygon(2, 5), 0);
        due.is("two places: beside it", x.winding(2, 5), 0);
        due.is("nearest of one", x.nearest(3, 1), 1);
        due.is("around of one", x.around(3, 1, 0), 0);
        due.is("order of one", x.order(1, 0), 0);
        due.is("area of one", x.area(1, 1), 0);
        due.is("area of two", x.area(2, 1), 0);
    }

    private static void nearestPlaces(Due due) {
        OrderJudge x = Due.withPoints(2, 5, 0, 0, 5, -3, 4, 0, 0, 1, 0, -800, -800, 800, 800);
        Due.putRow(x, 0, 1, 2, 6);
        due.is("all three", x.nearest(3, 4), 7);
        due.is("one", x.nearest(4, 4), 1);
        due.is("itself", x.nearest(2, 4), 4);
        due.is("far away", x.nearest(6, 3), 3);
        due.is("the far one itself", x.nearest(6, 4), 8);
        due.is("the first one alone", x.nearest(2, 1), 1);
        int[] all = new int[24];
        Due.putRow(x, all);
        due.is("24 places, all alike", x.nearest(5, 24), (1 << 24) - 1);
        x.of(23, 4);
        due.is("the last of 24", x.nearest(4, 24), 1 << 23);
        due.is("all but the last", x.nearest(0, 24), (1 << 23) - 1);
        Due.putRow(x, 6, 5, 3, 4, 0);
        due.is("nearer and nearer", x.nearest(0, 5), 16);
    }

    private static void roundAPoint(Due due) {
        // Round (1, 1): east near and far, north-east, north, west, south-west, south, south-east, the point itself.
        OrderJudge x = Due.withPoints(1, 1, 1, 3, 1, 9, 1, 3, 3, 1, 2, -5, 1, 0, 0, 1, -7, 2, 0, 1, 1);
        int[] row = {8, 7, 6, 5, 4, 3, 2, 1, 9, 1, 0};
        Due.putRow(x, row);
        int[] want = {8, 10, 7, 9, 6, 5, 4, 3, 2, 1, 0};
        for (int i = 0; i < want.length; i++) {
            due.is("around(0, 11, " + i + ")", x.around(0, 11, i), want[i]);
        }
        due.is("the first three alone", x.around(0, 3, 0), 2);
        due.is("the first three alone", x.around(0, 3, 2), 0);
        OrderJudge hair = Due.withPoints(12, 7, -3, 7, -3, 8, -3, 7, -2, 6, -3, 7, -4, 8, -2, 6, -4);
        Due.putRow(hair, 7, 6, 5, 4, 3, 2, 1, 0);
        int[] least = {6, 7, 5, 1, 4, 3, 0, 2};
        for (int i = 0; i < least.length; i++) {
            due.is("a hair away: around(0, 8, " + i + ")", hair.around(0, 8, i), least[i]);
        }
        OrderJudge west = Due.withPoints(1, 0, 0, -2, 0, -1, 0, -800, 1, -800, -1, 800, -1, 800, 1, 1, 0);
        Due.putRow(west, 5, 4, 1, 2, 3, 6, 7);
        int[] round = {6, 5, 4, 3, 2, 1, 0};
        for (int i = 0; i < round.length; i++) {
            due.is("west: around(0, 7, " + i + ")", west.around(0, 7, i), round[i]);
        }
        int[] bad = {-1, 7, 24, Integer.MIN_VALUE, Integer.MAX_VALUE};
        for (int i : bad) {
            due.is("around(0, 7, " + i + ")", west.around(0, 7, i), -2);
        }
        due.is("i is among the first n", west.around(0, 3, 3), -2);
    }

    private static void sorted(Due due) {
        OrderJudge x = Due.withPoints(6, 5, 0, -800, 3, 0, 800, 0, -800, 5, -1, 5, 0);
        Due.putRow(x, 5, 0, 4, 2, 3, 1, 0);
        int[] want = {5, 4, 3, 2, 0, 1, 6};
        for (int i = 0; i < want.length; i++) {
            due.is("order(7, " + i + ")", x.order(7, i), want[i]);
        }
        due.is("the first two alone", x.order(2, 0), 0);
        due.is("the first two alone", x.order(2, 1), 1);
        due.is("the first three alone", x.order(3, 0), 2);
        int[] bad = {-1, 7, 24, Integer.MIN_VALUE, Integer.MAX_VALUE};
        for (int i : bad) {
            due.is("order(7, " + i + ")", x.order(7, i), -2);
        }
        due.is("i is among the first n", x.order(3, 3), -2);
    }

    private static void areas(Due due) {
        OrderJudge x = Due.withPoints(12, 1, 1, 4, 1, 4, 6, -3, -3);
        Due.putRow(x, 0, 1, 2);
        due.is("area(3, 1)", x.area(3, 1), 15);
        due.is("area(3, 2)", x.area(3, 2), 7);
        due.is("area(3, -2)", x.area(3, -2), -7);
        due.is("area(3, 16)", x.area(3, 16), 0);
        due.is("area(3, max)", x.area(3, Long.MAX_VALUE), 0);
        due.is("area(3, min)", x.area(3, Long.MIN_VALUE), 0);
        due.is("area(2, 1)", x.area(2, 1), 0);
        Due.putRow(x, 2, 1, 0);
        due.is("to the right", x.area(3, 1), -15);
        due.is("towards 0", x.area(3, 4), -3);
        due.is("towards 0, by a number below 0", x.area(3, -4), 3);
        due.throwing("area(3, 0)", ArithmeticException.class, () -> x.area(3, 0));
        due.is("BAD is told ahead of by", x.area(4, 0), 0);
        due.is("BAD, n is 0", x.area(0, 0), 0);
        x.of(1, -1);
        due.is("NOT is told ahead of by", x.area(3, 0), 0);
        due.is("NOT", x.area(3, 1), 0);
        due.is("BAD", x.area(4, 1), 0);
        due.is("BAD, n is below 0", x.area(-1, 1), 0);
        due.is("NONE behind the first n", x.area(1, 1), 0);
        due.throwing("area(1, 0)", ArithmeticException.class, () -> x.area(1, 0));
        OrderJudge far = Due.withPoints(1, -800, -800, 800, -800, 800, 800, -800, 800);
        int[] rounds = new int[24];
        for (int i = 0; i < 24; i++) {
            rounds[i] = i % 4;
        }
        Due.putRow(far, rounds);
        due.is("six times round the greatest square", far.area(24, 1), 6L * 2 * 19200 * 19200);
        due.is("by the square", far.area(24, 19200 * 19200), 12);
    }

    private static void refusals(Due due) {
        OrderJudge x = Due.withPoints(1, 0, 0, 4, 0, 4, 4);
        Due.putRow(x, 0, 1, -1);
        for (int p : NO_POINTS) {
            due.is("polygon(2, " + p + ")", x.polygon(2, p), -2);
            due.is("polygon(3, " + p + "): BAD ahead of NOT", x.polygon(3, p), -2);
            due.is("winding(2, " + p + ")", x.winding(2, p), -100);
            due.is("nearest(" + p + ", 2)", x.nearest(p, 2), -2);
            due.is("nearest(" + p + ", 3): BAD ahead of NOT", x.nearest(p, 3), -2);
            due.is("around(" + p + ", 2, 0)", x.around(p, 2, 0), -2);
            due.is("around(" + p + ", 3, 0): BAD ahead of NOT", x.around(p, 3, 0), -2);
        }
        int[] bad = {4, 0, -1, 24, Integer.MIN_VALUE, Integer.MAX_VALUE};
        for (int n : bad) {
            due.is("polygon(" + n + ", 0)", x.polygon(n, 0), -2);
            due.is("winding(" + n + ", 0)", x.winding(n, 0), -100);
            due.is("nearest(0, " + n + ")", x.nearest(0, n), -2);
            due.is("around(0, " + n + ", 0)", x.around(0, n, 0), -2);
            due.is("order(" + n + ", 0)", x.order(n, 0), -2);
            due.is("area(" + n + ", 1)", x.area(n, 1), 0);
        }
        due.is("polygon: NOT", x.polygon(3, 0), -4);
        due.is("winding: NOT", x.winding(3, 0), -100);
        due.is("nearest: NOT", x.nearest(0, 3), -4);
        due.is("around: NOT", x.around(0, 3, 0), -4);
        due.is("around: BAD i ahead of NOT", x.around(0, 3, 3), -2);
        due.is("order: NOT", x.order(3, 0), -4);
        due.is("order: BAD i ahead of NOT", x.order(3, -1), -2);
        due.is("the first two are fine", x.polygon(2, 0), 2);
        due.is("the first two are fine", x.order(2, 1), 1);
    }
}
