/** Promises 21 (line) and 22 (lines). */
public final class LinesTest {
    public static void main(String[] args) {
        Due due = new Due();
        telling(due);
        few(due);
        sameLines(due);
        bundles(due);
        farMeets(due);
        twelve(due);
        due.end();
    }

    private static void telling(Due due) {
        OrderJudge x = Due.withPoints(2, 0, 0, 1, 2, 0, 0);
        due.is("line(0, 1)", x.line(0, 1), 0);
        due.is("line(0, 0)", x.line(0, 0), -4);
        due.is("line(0, 2)", x.line(0, 2), -4);
        int[] bad = {-1, 3, 60, Integer.MIN_VALUE, Integer.MAX_VALUE};
        for (int p : bad) {
            due.is("line(0, " + p + ")", x.line(0, p), -2);
            due.is("line(" + p + ", 0)", x.line(p, 0), -2);
            due.is("line(" + p + ", " + p + "): BAD ahead of NOT", x.line(p, p), -2);
        }
        due.is("refused lines are none", x.count(2), 1);
        for (int i = 1; i < 12; i++) {
            due.is("line " + i, x.line(1, 2), i);
        }
        due.is("line 12", x.line(1, 0), -3);
        due.is("NOT is told ahead of FULL", x.line(0, 2), -4);
        due.is("BAD is told ahead of FULL", x.line(0, 3), -2);
        due.is("12 lines", x.count(2), 12);
        due.is("all the same", x.lines(12, 0), 1);
        due.is("lines(13, 0)", x.lines(13, 0), -2);
        due.is("lines(-1, 0)", x.lines(-1, 0), -2);
        due.is("lines(min, 0)", x.lines(Integer.MIN_VALUE, 0), -2);
        due.is("lines(max, 0)", x.lines(Integer.MAX_VALUE, 0), -2);
        due.is("lines(12, 6)", x.lines(12, 6), -2);
        due.is("lines(12, -1)", x.lines(12, -1), -2);
        due.is("lines(0, max)", x.lines(0, Integer.MAX_VALUE), -2);
        due.is("lines(0, min)", x.lines(0, Integer.MIN_VALUE), -2);
    }

    private static void few(Due due) {
        OrderJudge x = Due.withPoints(1, 0, 0, 4, 0, 0, 1, 4, 1, 2, 0, 2, 5);
        all(due, "no line", x, 0, 0, 0, 1, 0, 0, 0);
        x.line(0, 1);
        all(due, "one line", x, 1, 1, 0, 2, 1, 0, 0);
        x.line(2, 3);
        all(due, "two side by side", x, 2, 2, 0, 3, 2, 0, 0);
        x.line(4, 5);
        all(due, "one across two", x, 3, 3, 2, 6, 7, 0, 2);
        all(due, "the first two alone, again", x, 2, 2, 0, 3, 2, 0, 0);
        x.line(0, 3);
        all(due, "one aslant", x, 4, 4, 5, 10, 14, 2, 2);
        all(due, "no line, again", x, 0, 0, 0, 1, 0, 0, 0);
    }

    private static void sameLines(Due due) {
        OrderJudge x = Due.withPoints(3, 0, 0, 2, 4, 3, 6, -1, -2, 0, 3, 1, 5, 7, 0);
        x.line(0, 1);
        x.line(3, 2);
        x.line(2, 0);
        all(due, "one line three times", x, 3, 1, 0, 2, 1, 0, 0);
        x.line(4, 5);
        all(due, "and one beside it", x, 4, 2, 0, 3, 2, 0, 0);
        x.line(0, 6);
        all(due, "and one across", x, 5, 3, 2, 6, 7, 0, 2);
        x.line(6, 0);
        all(due, "the same across", x, 6, 3, 2, 6, 7, 0, 2);
    }

    private static void bundles(Due due) {
        OrderJudge x = Due.withPoints(1, 1, 1, 5, 1, 5, 5, 1, 5, -3, 5, 5, -3);
        for (int b = 1; b <= 3; b++) {
            x.line(0, b);
        }
        all(due, "three through one point", x, 3, 3, 1, 6, 6, 0, 3);
        x.line(0, 4);
        all(due, "four through one point", x, 4, 4, 1, 8, 8, 0, 4);
        x.line(5, 1);
        all(due, "the upright one beside them", x, 5, 5, 4, 12, 15, 2, 4);
        x.line(3, 2);
        all(due, "the level one above them", x, 6, 6, 6, 16, 21, 4, 4);
    }

    // Meets need not be whole, nor near the points.
    private static void farMeets(Due due) {
        OrderJudge x = Due.withPoints(1, -800, -800, 800, 799, -800, 800, 800, -798, -800, 0, 800, 0, -800, 1, 800, 0);
        x.line(0, 1);
        x.line(2, 3);
        x.line(4, 5);
        all(due, "nearly three through one point", x, 3, 3, 3, 7, 9, 1, 2);
        x.line(6, 7);
        all(due, "nearly side by side", x, 4, 4, 6, 11, 16, 3, 2);
        OrderJudge thirds = Due.withPoints(3, 0, 0, 3, 1, 0, 1, 3, 0, 0, 2, 3, -1, 1, 0, 2, 1);
        thirds.line(0, 1);
        thirds.line(2, 3);
        thirds.line(4, 5);
        thirds.line(6, 7);
        all(due, "four through a point of halves", thirds, 4, 4, 1, 8, 8, 0, 4);
    }

    // Twelve lines of which no two are alike in direction and no three meet: tangents of a parabola.
    private static void twelve(Due due) {
        OrderJudge x = new OrderJudge();
        for (int t = 0; t < 12; t++) {
            x.point(0, -t * t, 1);
            x.point(10, 20 * t - t * t, 1);
            due.is("tangent " + t, x.line(2 * t, 2 * t + 1), t);
        }
        all(due, "twelve tangents", x, 12, 12, 66, 79, 144, 55, 2);
        all(due, "eleven tangents", x, 11, 11, 55, 67, 121, 45, 2);
    }

    private static void all(Due due, String call, OrderJudge x, int n, int... want) {
        for (int what = 0; what < want.length; what++) {
            due.is(call + ": lines(" + n + ", " + what + ")", x.lines(n, what), want[what]);
        }
    }
}
