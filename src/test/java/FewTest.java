/** Promises 10 (between), 11 (inside), 12 (cross) and 13 (separated). */
public final class FewTest {
    private static final int[] NO_POINTS = {-1, 9, 60, Integer.MIN_VALUE, Integer.MAX_VALUE};

    public static void main(String[] args) {
        Due due = new Due();
        betweens(due);
        angles(due);
        crossings(due);
        separations(due);
        due.end();
    }

    private static void betweens(Due due) {
        OrderJudge x = Due.withPoints(1, 0, 0, 6, 4, 3, 2, 9, 6, 3, 3, 0, 0, -3, -2, 0, 4, 0, 1);
        due.is("in the middle", x.between(0, 2, 1), 1);
        due.is("in the middle, back", x.between(1, 2, 0), 1);
        due.is("beyond c", x.between(0, 3, 1), 0);
        due.is("before a", x.between(0, 6, 1), 0);
        due.is("in the box, off the line", x.between(0, 4, 1), 0);
        due.is("b is a", x.between(0, 0, 1), 2);
        due.is("b is EQUAL to a", x.between(0, 5, 1), 2);
        due.is("b is EQUAL to c", x.between(1, 5, 0), 2);
        due.is("all EQUAL", x.between(0, 5, 0), 2);
        due.is("a and c EQUAL, b elsewhere", x.between(0, 1, 5), 0);
        due.is("upright", x.between(0, 8, 7), 1);
        due.is("upright, beyond", x.between(0, 7, 8), 0);
        for (int p : NO_POINTS) {
            due.is("between(" + p + ", 0, 1)", x.between(p, 0, 1), -2);
            due.is("between(0, " + p + ", 1)", x.between(0, p, 1), -2);
            due.is("between(0, 1, " + p + ")", x.between(0, 1, p), -2);
        }
    }

    private static void angles(Due due) {
        anglesAt(due, 0, 0, 1);
        anglesAt(due, 700, -31, 1);
        anglesAt(due, -5, 790, 12);
        anglesAt(due, -800 + 9, -3, 6);
        farFromTheCorner(due);
        int[] round = {0, 0, 2, 0, 2, 2, 0, 2, -2, 2, -2, 0, -2, -2, 0, -2, 2, -2};
        OrderJudge x = Due.withPoints(1, round);
        due.is("d is a", x.inside(0, 1, 3, 0), 2);
        OrderJudge y = Due.withPoints(1, 1, 1, 3, 1, 5, 1, 1, 1, 2, 1, 0, 1, 9, 2);
        due.is("d EQUAL to a", y.inside(0, 1, 2, 3), 2);
        due.is("one direction, d in it, nearer", y.inside(0, 1, 2, 4), 2);
        due.is("one direction, d in it, farther", y.inside(0, 4, 1, 2), 2);
        due.is("one direction, d in the other", y.inside(0, 1, 2, 5), 0);
        due.is("one direction, d beside it", y.inside(0, 1, 2, 6), 0);
        due.is("b is a", y.inside(0, 0, 1, 2), -4);
        due.is("b is EQUAL to a", y.inside(0, 3, 1, 2), -4);
        due.is("c is EQUAL to a", y.inside(0, 1, 3, 2), -4);
        due.is("c is EQUAL to a, d too", y.inside(0, 1, 3, 0), -4);
        OrderJudge hair = Due.withPoints(12, 30, -50, 31, -49, 32, -48, 29, -51, 31, -50, 30, -49);
        due.is("a hair away, one direction", hair.inside(0, 1, 4, 2), 2);
        due.is("a hair away, the other direction, from b to c the long way", hair.inside(0, 1, 4, 3), 1);
        due.is("a hair away, the other direction, from b to c the short way", hair.inside(0, 4, 1, 3), 0);
        due.is("opposite directions, to the left", hair.inside(0, 1, 3, 5), 1);
        due.is("opposite directions, to the right", hair.inside(0, 1, 3, 4), 0);
        due.is("b and c EQUAL alone is fine", y.inside(0, 1, 1, 6), 0);
        due.is("a hair away, d is b", hair.inside(0, 4, 5, 4), 2);
        due.is("a hair away, d is c", hair.inside(0, 4, 5, 5), 2);
        due.is("a hair away, d, b and c are one", hair.inside(0, 5, 5, 5), 2);
        for (int p : NO_POINTS) {
            due.is("inside(" + p + ", 0, 1, 2)", x.inside(p, 0, 1, 2), -2);
            due.is("inside(0, " + p + ", 1, 2)", x.inside(0, p, 1, 2), -2);
            due.is("inside(0, 1, " + p + ", 2)", x.inside(0, 1, p, 2), -2);
            due.is("inside(0, 0, 0, " + p + "): BAD ahead of NOT", x.inside(0, 0, 0, p), -2);
        }
    }

    // The points 1 to 16 stand round point 0, at the corner (x, y), from growing X on to the left.
    private static void anglesAt(Due due, int x0, int y0, int down) {
        int[][] round = {{1, 0}, {9, 2}, {3, 3}, {1, 7}, {0, 2}, {-1, 8}, {-1, 1}, {-9, 4}, {-3, 0}, {-9, -1}, {-2, -2}, {-2, -9}, {0, -1}, {2, -9}, {1, -1}, {9, -1}};
        for (int b = 1; b <= 16; b++) {
            for (int c = 1; c <= 16; c++) {
                OrderJudge x = Due.withPoints(down, x0, y0);
                for (int[] r : round) {
                    x.point(x0 + r[0], y0 + r[1], down);
                }
                for (int d = 1; d <= 16; d++) {
                    int toC = (c - b + 16) % 16, toD = (d - b + 16) % 16;
                    int want = d == b || d == c ? 2 : toD < toC ? 1 : 0;
                    due.is("inside(0, " + b + ", " + c + ", " + d + ") at (" + x0 + ", " + y0 + ")", x.inside(0, b, c, d), want);
                }
            }
        }
    }

    // Directions that differ by the least, with points at the farthest: the same direction at other lengths is one.
    private static void farFromTheCorner(Due due) {
        OrderJudge x = Due.withPoints(12, -800, -800, 800, 799, 799, 798, 0, 0, 800, 800, -799, -799);
        due.is("the least angle: just within it", x.inside(0, 1, 4, 3), 2);
        due.is("the least angle: a hair to the right of b", x.inside(0, 1, 4, 2), 0);
        due.is("the least angle, the long way: a hair to the right of b", x.inside(0, 4, 1, 2), 1);
        due.is("the least angle, wider: b's neighbour within", x.inside(0, 2, 4, 1), 1);
        due.is("the direction of c, a hair from the corner", x.inside(0, 1, 4, 5), 2);
        due.is("the direction of b, farther", x.inside(0, 5, 1, 4), 2);
    }

    private static void crossings(Due due) {
        OrderJudge x = Due.withPoints(1, 0, 0, 4, 4, 0, 4, 4, 0, 2, 2, 6, 6, 0, 0, 8, 8, 1, 0);
        due.is("each through the other", x.cross(0, 1, 2, 3), 1);
        due.is("back and forth", x.cross(1, 0, 3, 2), 1);
        due.is("an end within the other", x.cross(0, 1, 2, 4), 2);
        due.is("an end within the other, turned", x.cross(4, 2, 0, 1), 2);
        due.is("an end in common", x.cross(0, 1, 0, 2), 2);
        due.is("EQUAL ends, in line, end to end", x.cross(4, 0, 4, 1), 2);
        due.is("in line, apart", x.cross(0, 4, 5, 7), 0);
        due.is("in line, overlapping", x.cross(0, 1, 4, 5), 3);
        due.is("in line, one in the other", x.cross(0, 7, 5, 4), 3);
        due.is("the same way", x.cross(0, 1, 1, 6), 3);
        due.is("apart, side by side", x.cross(0, 2, 8, 3), 0);
        due.is("the line crosses, the way does not", x.cross(1, 5, 2, 3), 0);
        due.is("the other line crosses, the way does not", x.cross(2, 3, 1, 5), 0);
        due.is("a point on the way", x.cross(4, 4, 0, 1), 2);
        due.is("a point at the end of the way", x.cross(0, 1, 6, 0), 2);
        due.is("a point beyond the way", x.cross(0, 1, 5, 5), 0);
        due.is("a point beside the way", x.cross(2, 2, 0, 1), 0);
        due.is("two points EQUAL", x.cross(0, 0, 6, 6), 2);
        due.is("two points not EQUAL", x.cross(0, 0, 1, 1), 0);
        int[][] touching = {{0, 1, 4, 2}, {0, 1, 2, 4}, {2, 4, 0, 1}, {4, 2, 0, 1}, {1, 0, 4, 3}, {1, 0, 3, 4}, {3, 4, 1, 0}, {4, 3, 1, 0}};
        for (int[] t : touching) {
            due.is("one of four ends within the other way", x.cross(t[0], t[1], t[2], t[3]), 2);
        }
        due.is("an end in line with the other way, beyond it", x.cross(0, 4, 1, 2), 0);
        due.is("an end in line with the other way, before it", x.cross(2, 1, 4, 0), 0);
        due.is("b in line with the other way, beyond it", x.cross(8, 5, 0, 4), 0);
        due.is("a in line with the other way, beyond it", x.cross(5, 8, 0, 4), 0);
        due.is("a point in line, overlap from b on", x.cross(5, 4, 0, 1), 3);
        OrderJudge up = Due.withPoints(2, 0, 0, 0, 5, 0, 2, 0, 9, 0, 7);
        due.is("upright, overlapping", up.cross(0, 1, 3, 2), 3);
        due.is("upright, apart", up.cross(0, 1, 3, 4), 0);
        due.is("upright, end to end", up.cross(1, 0, 1, 3), 2);
        for (int p : NO_POINTS) {
            due.is("cross(" + p + ", 0, 1, 2)", x.cross(p, 0, 1, 2), -2);
            due.is("cross(0, " + p + ", 1, 2)", x.cross(0, p, 1, 2), -2);
            due.is("cross(0, 1, " + p + ", 2)", x.cross(0, 1, p, 2), -2);
            due.is("cross(0, 1, 2, " + p + ")", x.cross(0, 1, 2, p), -2);
        }
    }

    private static void separations(Due due) {
        orderOnClosedLine(due, "on a circle", 1, 5, 0, 3, 4, 0, 5, -4, 3, -5, 0, -3, -4, 0, -5, 4, -3);
        orderOnClosedLine(due, "on a line", 6, -6, -9, -4, -6, -2, -3, 0, 0, 2, 3, 400, 600);
        orderOnClosedLine(due, "on an upright line", 1, 7, -800, 7, -1, 7, 0, 7, 1, 7, 800);
        OrderJudge x = Due.withPoints(1, 0, 0, 2, 0, 2, 2, 0, 2, 0, 0, 1, 0, 4, 4, 3, 1);
        due.is("on no circle", x.separated(0, 1, 2, 7), -4);
        due.is("a, b, c in line alone", x.separated(0, 1, 5, 2), -4);
        due.is("a, b, d in line alone", x.separated(0, 1, 2, 5), -4);
        due.is("a, c, d in line alone", x.separated(0, 3, 1, 5), -4);
        due.is("b, c, d in line alone", x.separated(3, 0, 1, 5), -4);
        int[][] twoEqual = {{0, 4, 1, 2}, {0, 1, 4, 2}, {0, 1, 2, 4}, {1, 0, 4, 2}, {1, 0, 2, 4}, {1, 2, 0, 4}, {1, 2, 0, 0}};
        for (int[] e : twoEqual) {
            due.is("two EQUAL", x.separated(e[0], e[1], e[2], e[3]), -4);
        }
        OrderJudge inLine = Due.withPoints(1, 0, 0, 1, 0, 1, 0, 3, 0);
        due.is("two EQUAL on a line", inLine.separated(0, 3, 1, 2), -4);
        due.is("two EQUAL on a line, a and c", inLine.separated(1, 3, 2, 0), -4);
        for (int p : NO_POINTS) {
            due.is("separated(" + p + ", 0, 1, 2)", x.separated(p, 0, 1, 2), -2);
            due.is("separated(0, " + p + ", 1, 2)", x.separated(0, p, 1, 2), -2);
            due.is("separated(0, 1, " + p + ", 2)", x.separated(0, 1, p, 2), -2);
            due.is("separated(0, 0, 0, " + p + "): BAD ahead of NOT", x.separated(0, 0, 0, p), -2);
        }
    }

    // The points are numbered as they come along the closed line.
    private static void orderOnClosedLine(Due due, String where, int down, int... xy) {
        int n = xy.length / 2;
        for (int a = 0; a < n; a++) {
            for (int b = 0; b < n; b++) {
                OrderJudge x = Due.withPoints(down, xy);
                for (int c = 0; c < n; c++) {
                    for (int d = 0; d < n; d++) {
                        boolean twice = a == b || a == c || a == d || b == c || b == d || c == d;
                        boolean cAmong = c > Math.min(a, b) && c < Math.max(a, b);
                        boolean dAmong = d > Math.min(a, b) && d < Math.max(a, b);
                        int want = twice ? -4 : cAmong != dAmong ? 1 : 0;
                        due.is(where + ": separated(" + a + ", " + b + ", " + c + ", " + d + ")", x.separated(a, b, c, d), want);
                    }
                }
            }
        }
    }
}
