/** Promises 1 to 23, a method each: the least and the greatest that each takes, and of several refusals the first one told. */
public final class PromiseEdgesTest {
    private static final int MIN = Integer.MIN_VALUE, MAX = Integer.MAX_VALUE;
    // The first quarter of a convex way of 24 corners that goes round to the left.
    private static final int[][] STEPS = {{6, 0}, {5, 1}, {4, 2}, {3, 3}, {2, 4}, {1, 5}};

    public static void main(String[] args) {
        Due due = new Due();
        newObject(due);
        point(due);
        size(due);
        of(due);
        at(due);
        side(due);
        circle(due);
        filter(due);
        decided(due);
        between(due);
        inside(due);
        cross(due);
        separated(due);
        convex(due);
        polygon(due);
        winding(due);
        nearest(due);
        around(due);
        order(due);
        area(due);
        line(due);
        lines(due);
        count(due);
        due.end();
    }

    // 1: "No POINTS, no PLACES, no LINES; THE FILTER is on."
    private static void newObject(Due due) {
        OrderJudge x = new OrderJudge();
        for (int what = 0; what < 6; what++) {
            due.is("no LINES: lines(1, " + what + ")", x.lines(1, what), -2);
            due.is("no LINES: lines(0, " + what + ")", x.lines(0, what), what == 2 ? 1 : 0);
        }
        due.is("no PLACES: area(1, 0)", x.area(1, 0), 0);
        due.is("no PLACES: winding(1, 0)", x.winding(1, 0), -100);
        due.is("no POINTS: of(0, 0)", x.of(0, 0), -2);
        due.throwing("no PLACES: of(0, NONE)", ArrayIndexOutOfBoundsException.class, () -> x.of(0, -1));
        due.is("no POINTS: line(0, 1)", x.line(0, 1), -2);
        due.is("THE FILTER is on", x.count(3), 1);
        due.is("the first POINT", x.point(0, 0, 1), 0);
        due.is("no PLACES: size", x.size(0), 0);
        due.is("no LINES: the first one", x.line(0, x.point(1, 0, 1)), 0);
        x.side(0, 1, x.point(0, 1, 1));
        due.is("THE FILTER is on: it decides the first side()", x.decided(0), 1);
    }

    // 2: "A POINT: its number. BAD; FULL."
    private static void point(Due due) {
        OrderJudge x = new OrderJudge();
        for (int i = 0; i < 59; i++) {
            x.point(0, 0, 1);
        }
        due.is("the 60th, BAD", x.point(-801, 0, 1), -2);
        due.is("the 60th", x.point(-800, 800, 12), 59);
        due.is("the 61st", x.point(-800, 800, 12), -3);
        due.is("BAD x ahead of FULL", x.point(801, 0, 1), -2);
        due.is("BAD y ahead of FULL", x.point(0, 801, 1), -2);
        due.is("BAD down ahead of FULL", x.point(0, 0, 0), -2);
        due.is("60 POINTS", x.count(0), 60);
    }

    // 3: "THE ROW has n PLACES, all with NONE: how many it had. BAD: n is above 24; NegativeArraySizeException: n is below 0."
    private static void size(Due due) {
        OrderJudge x = Due.withPoints(1, 1, 2);
        int before = 0;
        int[] sizes = {24, 23, 24, 1, 0, 0, 2, 24, 24, 5};
        for (int n : sizes) {
            due.is("size(" + n + ")", x.size(n), before);
            due.is("so many PLACES", x.count(1), n);
            for (int i = 0; i < n; i++) {
                due.is("with NONE at first", x.of(i, 0), -1);
            }
            due.throwing("the PLACE behind the last", ArrayIndexOutOfBoundsException.class, () -> x.of(n, 0));
            before = n;
        }
        int[] above = {25, 26, 32, 60, 1 << 16, MAX};
        for (int n : above) {
            due.is("size(" + n + ")", x.size(n), -2);
        }
        int[] below = {-1, -2, -3, -4, -24, MIN};
        for (int n : below) {
            due.throwing("size(" + n + ")", NegativeArraySizeException.class, () -> x.size(n));
        }
        due.is("the row stays", x.nearest(0, 5), 31);
    }

    // 4: "PLACE i gets a POINT, or NONE: which it had (NONE). BAD: no such POINT; ArrayIndexOutOfBoundsException: no such PLACE."
    private static void of(Due due) {
        OrderJudge x = new OrderJudge();
        for (int i = 0; i < 60; i++) {
            x.point(i, 0, 1);
        }
        x.size(24);
        int[] ends = {0, 23};
        for (int i : ends) {
            due.is("NONE at first", x.of(i, -1), -1);
            due.is("the last POINT", x.of(i, 59), -1);
            due.is("the first POINT", x.of(i, 0), 59);
            due.is("the same again", x.of(i, 0), 0);
            due.is("one behind the last POINT", x.of(i, 60), -2);
            due.is("the number below NONE", x.of(i, -2), -2);
            due.is("it has what it had", x.of(i, -1), 0);
            due.is("and now NONE", x.of(i, 1), -1);
        }
        due.is("the PLACE beside it", x.of(1, 2), -1);
        due.is("the PLACE beside the last", x.of(22, 2), -1);
        int[] none = {-1, 24, 25, MIN, MAX};
        for (int i : none) {
            due.throwing("of(" + i + ", 59)", ArrayIndexOutOfBoundsException.class, () -> x.of(i, 59));
            due.throwing("of(" + i + ", NONE)", ArrayIndexOutOfBoundsException.class, () -> x.of(i, -1));
            due.is("no such POINT is told ahead of no such PLACE", x.of(i, 60), -2);
            due.is("no such POINT is told ahead of no such PLACE", x.of(i, -2), -2);
        }
    }

    // 5: "what = 0 X, 1 Y; another one: its number (any number)"
    private static void at(Due due) {
        OrderJudge x = Due.withPoints(3, 800, -800, 0, 0, -1, 2);
        x.size(24);
        x.of(0, 0);
        x.of(23, 2);
        due.is("X of the first PLACE", x.at(0, 0), 3200);
        due.is("Y of the first PLACE", x.at(0, 1), -3200);
        due.is("X of the last PLACE", x.at(23, 0), -4);
        due.is("Y of the last PLACE", x.at(23, 1), 8);
        int[] others = {2, 3, -1, -2, 24, 60, MIN, MAX};
        for (int what : others) {
            due.is("at(0, " + what + ")", x.at(0, what), 0);
            due.is("at(23, " + what + ")", x.at(23, what), 2);
            due.throwing("at(22, " + what + ")", NullPointerException.class, () -> x.at(22, what));
            due.throwing("at(24, " + what + ")", ArrayIndexOutOfBoundsException.class, () -> x.at(24, what));
            due.throwing("at(-1, " + what + ")", ArrayIndexOutOfBoundsException.class, () -> x.at(-1, what));
        }
        due.is("what it tells stays", x.of(23, 2), 2);
    }

    // 6: "BAD; NOT: a and b are EQUAL."
    private static void side(Due due) {
        OrderJudge x = Due.withPoints(1, 0, 0, 1, 1, 0, 0, 2, 0);
        due.is("c EQUAL to a alone is fine", x.side(0, 1, 2), 0);
        due.is("c is b", x.side(0, 1, 1), 0);
        due.is("NOT", x.side(0, 2, 1), -4);
        due.is("NOT, all EQUAL", x.side(0, 2, 0), -4);
        due.is("BAD ahead of NOT", x.side(0, 2, 4), -2);
        due.is("BAD, a and b no POINT", x.side(4, 4, 0), -2);
        due.is("BAD, a and b no POINT", x.side(-1, -1, 0), -2);
        due.is("the last POINT", x.side(0, 1, 3), -1);
    }

    // 7: "BAD; NOT: a, b, c are in line."
    private static void circle(Due due) {
        OrderJudge x = Due.withPoints(1, 0, 0, 1, 1, 0, 0, 2, 0, 2, 2);
        due.is("NOT: in line", x.circle(0, 1, 4, 3), -4);
        due.is("NOT: a, b EQUAL", x.circle(0, 2, 3, 1), -4);
        due.is("NOT: a, c EQUAL", x.circle(0, 3, 2, 1), -4);
        due.is("NOT: b, c EQUAL", x.circle(3, 0, 2, 1), -4);
        due.is("BAD ahead of NOT", x.circle(0, 2, 3, 5), -2);
        due.is("d in line with two of them is fine", x.circle(0, 3, 4, 1), 1);
        due.is("d EQUAL to one of them is fine", x.circle(0, 3, 4, 2), 0);
        due.is("NOT, however near to a line's breadth", Due.withPoints(12, 0, 0, 799, 800, -799, -800, 1, 1).circle(0, 1, 2, 3), -4);
        due.is("nearly in line is a circle", Due.withPoints(12, 0, 0, 799, 800, -799, -799, 1, 1).circle(0, 1, 2, 3), -1);
    }

    // 8: "THE FILTER is on, or off: 1, if it was on, else 0."
    private static void filter(Due due) {
        OrderJudge x = new OrderJudge();
        boolean on = true;
        boolean[] next = {true, false, false, true, true, false, true};
        for (boolean n : next) {
            due.is("filter(" + n + ")", x.filter(n), on ? 1 : 0);
            due.is("count(3)", x.count(3), n ? 1 : 0);
            on = n;
        }
    }

    // 9: "How many .. THE FILTER DECIDED (what = 0; none while it is off), it did not (1), and told 0 (2). BAD."
    private static void decided(Due due) {
        OrderJudge x = Due.withPoints(1, 0, 0, 4, 0, 0, 4, 4, 4, 8, 0, 0, 0);
        tally(due, "nothing asked", x, 0, 0, 0);
        x.side(0, 1, 2);
        tally(due, "a side decided", x, 1, 0, 0);
        x.circle(0, 1, 2, 4);
        tally(due, "a circle decided", x, 2, 0, 0);
        x.side(0, 1, 4);
        tally(due, "a side told 0", x, 2, 1, 1);
        x.circle(0, 1, 2, 3);
        tally(due, "a circle told 0", x, 2, 2, 2);
        x.side(0, 5, 1);
        x.side(0, 1, 6);
        x.circle(0, 1, 4, 2);
        x.circle(0, 1, 2, -1);
        tally(due, "refused", x, 2, 2, 2);
        x.filter(false);
        tally(due, "off: what was decided stays", x, 2, 2, 2);
        x.side(0, 1, 2);
        x.circle(0, 1, 2, 4);
        tally(due, "off: none is decided", x, 2, 4, 2);
        x.side(0, 1, 4);
        x.circle(0, 1, 2, 3);
        tally(due, "off: told 0", x, 2, 6, 4);
        x.side(5, 0, 1);
        tally(due, "off: refused", x, 2, 6, 4);
        x.filter(true);
        tally(due, "on again: all stay", x, 2, 6, 4);
        x.side(0, 1, 3);
        tally(due, "on again: it decides", x, 3, 6, 4);
        Due.putRow(x, 0, 1, 3, 2);
        x.convex(4);
        x.polygon(4, 4);
        x.winding(4, 4);
        x.around(0, 4, 1);
        x.line(0, 1);
        x.line(0, 2);
        x.lines(2, 1);
        tally(due, "other calls", x, 3, 6, 4);
        int[] bad = {-1, 3, 4, MIN, MAX};
        for (int what : bad) {
            due.is("decided(" + what + ")", x.decided(what), -2);
        }
    }

    private static void tally(Due due, String told, OrderJudge x, int clear, int unclear, int zeros) {
        due.is(told + ": decided(0)", x.decided(0), clear);
        due.is(told + ": decided(1)", x.decided(1), unclear);
        due.is(told + ": decided(2)", x.decided(2), zeros);
    }

    // 10: "2: b is EQUAL to a or c; 1: it lies on the line between them; 0: neither."
    private static void between(Due due) {
        int[][] directions = {{1, 0}, {0, 1}, {3, 2}, {-2, 3}, {1, -1}};
        for (int[] d : directions) {
            OrderJudge x = new OrderJudge();
            for (int step = 0; step < 7; step++) {
                x.point(5 + step * d[0], -7 + step * d[1], 12);
            }
            for (int b = 0; b < 7; b++) {
                int want = b == 2 || b == 5 ? 2 : b > 2 && b < 5 ? 1 : 0;
                due.is("between(2, " + b + ", 5)", x.between(2, b, 5), want);
                due.is("between(5, " + b + ", 2)", x.between(5, b, 2), want);
                due.is("between(2, " + b + ", 2)", x.between(2, b, 2), b == 2 ? 2 : 0);
            }
            int beside = x.point(5 + 3 * d[0] - d[1], -7 + 3 * d[1] + d[0], 12);
            due.is("beside the line", x.between(2, beside, 5), 0);
        }
    }

    // 11: "(b and c in one direction: that alone)"; "or is EQUAL to a"; "NOT: b or c is EQUAL to a"
    private static void inside(Due due) {
        OrderJudge x = Due.withPoints(1, 2, 2, 4, 3, 6, 4, 2, 2, 0, 1, 2, 5, 5, 2, 2, -800);
        due.is("one direction: farther", x.inside(0, 1, 2, 2), 2);
        due.is("one direction: the other one", x.inside(0, 1, 2, 4), 0);
        due.is("one direction: to the left", x.inside(0, 1, 2, 5), 0);
        due.is("one direction: to the right", x.inside(0, 1, 2, 6), 0);
        due.is("one direction: d EQUAL to a", x.inside(0, 1, 2, 3), 2);
        due.is("b is c: that alone", x.inside(0, 1, 1, 5), 0);
        due.is("b is c: d too", x.inside(0, 1, 1, 1), 2);
        due.is("half a round: to the left", x.inside(0, 1, 4, 5), 1);
        due.is("half a round: to the right", x.inside(0, 1, 4, 6), 0);
        due.is("half a round: back, to the right", x.inside(0, 4, 1, 6), 1);
        due.is("half a round: d in the direction of c", x.inside(0, 2, 4, 4), 2);
        due.is("more than half a round", x.inside(0, 5, 6, 4), 1);
        due.is("more than half a round: what it leaves", x.inside(0, 5, 6, 1), 0);
        due.is("more than half a round: far away", x.inside(0, 5, 6, 7), 1);
        due.is("NOT: b", x.inside(0, 3, 1, 2), -4);
        due.is("NOT: c", x.inside(0, 1, 3, 2), -4);
        due.is("NOT: both", x.inside(0, 0, 3, 0), -4);
        due.is("BAD ahead of NOT", x.inside(0, 3, 8, 1), -2);
        due.is("BAD ahead of NOT, d", x.inside(0, 3, 3, -1), -2);
    }

    // 12: "ends with them: 0: they have no point in common; 1: one, that is an end of neither; 2: one, that is an end; 3: more"
    private static void cross(Due due) {
        int[][] directions = {{1, 0}, {0, 1}, {2, 1}, {-1, 3}, {1, -1}};
        for (int[] d : directions) {
            // In line: all ways from one of seven steps to another.
            for (int a = 0; a < 7; a++) {
                OrderJudge x = new OrderJudge();
                for (int step = 0; step < 7; step++) {
                    x.point(step * d[0], step * d[1], 6);
                }
                for (int b = 0; b < 7; b++) {
                    for (int c = 0; c < 7; c++) {
                        int low = Math.max(Math.min(a, b), Math.min(c, 4)), high = Math.min(Math.max(a, b), Math.max(c, 4));
                        int want = low > high ? 0 : low == high ? 2 : 3;
                        due.is("in line: cross(" + a + ", " + b + ", " + c + ", 4)", x.cross(a, b, c, 4), want);
                        due.is("in line: cross(4, " + c + ", " + b + ", " + a + ")", x.cross(4, c, b, a), want);
                    }
                }
            }
        }
        crossOneAcross(due);
    }

    // A level way from (0, 0) to (4, 0), and upright ones at and beside its ends.
    private static void crossOneAcross(Due due) {
        for (int at = -1; at <= 5; at++) {
            for (int from = -2; from <= 2; from++) {
                for (int to = -2; to <= 2; to++) {
                    OrderJudge x = Due.withPoints(12, 0, 0, 4, 0, at, from, at, to);
                    boolean meets = at >= 0 && at <= 4 && from * to <= 0;
                    boolean end = at == 0 || at == 4 || from == 0 || to == 0;
                    int want = !meets ? 0 : end ? 2 : 1;
                    String where = "upright at " + at + " from " + from + " to " + to;
                    due.is(where, x.cross(0, 1, 2, 3), want);
                    due.is(where + ", back", x.cross(1, 0, 3, 2), want);
                    due.is(where + ", the other one first", x.cross(2, 3, 0, 1), want);
                    due.is(where + ", the other one first, back", x.cross(3, 2, 0, 1), want);
                }
            }
        }
    }

    // 13: "NOT: two are EQUAL, or they are on no circle and no line"
    private static void separated(Due due) {
        OrderJudge x = Due.withPoints(12, 0, 0, 4, 0, 4, 4, 0, 4, 0, 0, 2, 2, 6, 6, 3, 4, 8, 8);
        due.is("on their circle, one each way", x.separated(0, 2, 1, 3), 1);
        due.is("on their circle, both one way", x.separated(0, 1, 2, 3), 0);
        due.is("on their line", x.separated(0, 6, 5, 8), 1);
        due.is("on their line, both far away", x.separated(5, 2, 0, 6), 0);
        due.is("on their line, both between", x.separated(0, 8, 5, 6), 0);
        due.is("a hair beside their circle", x.separated(0, 1, 2, 7), -4);
        due.is("a hair beside their circle, c", x.separated(0, 1, 7, 2), -4);
        due.is("a hair beside their circle, a", x.separated(7, 1, 2, 0), -4);
        due.is("a hair beside their circle, b", x.separated(1, 7, 2, 0), -4);
        int[][] three = {{0, 5, 2, 1}, {0, 5, 1, 2}, {0, 1, 5, 2}, {1, 0, 5, 2}};
        for (int[] t : three) {
            due.is("three in line alone", x.separated(t[0], t[1], t[2], t[3]), -4);
        }
        int[][] equal = {{0, 4, 1, 2}, {0, 1, 4, 2}, {0, 1, 2, 4}, {1, 0, 4, 2}, {1, 0, 2, 4}, {1, 2, 0, 4}, {0, 4, 5, 2}, {0, 5, 4, 2}, {0, 5, 2, 4}, {5, 0, 4, 2}, {5, 0, 2, 4}, {5, 2, 0, 4}};
        for (int[] e : equal) {
            due.is("two EQUAL", x.separated(e[0], e[1], e[2], e[3]), -4);
        }
        due.is("BAD ahead of NOT", x.separated(0, 4, 0, 9), -2);
    }

    private static int[] corners() {
        int[] xy = new int[48];
        int px = 0, py = 0;
        for (int i = 0; i < 24; i++) {
            xy[2 * i] = px;
            xy[2 * i + 1] = py;
            int[] s = STEPS[i % 6];
            int quarter = i / 6;
            px += quarter == 0 ? s[0] : quarter == 1 ? -s[1] : quarter == 2 ? -s[0] : s[1];
            py += quarter == 0 ? s[1] : quarter == 1 ? s[0] : quarter == 2 ? -s[1] : -s[0];
        }
        return xy;
    }

    private static int[] places(int n, int from, int step) {
        int[] row = new int[n];
        for (int i = 0; i < n; i++) {
            row[i] = Math.floorMod(from + i * step, 24);
        }
        return row;
    }

    // 14: "of each EDGE all other PLACES of the first n (3 and more) lie to the left, -1: to the right, 0: neither"
    private static void convex(Due due) {
        for (int from = 0; from < 24; from += 5) {
            OrderJudge x = Due.withPoints(1, corners());
            Due.putRow(x, places(24, from, 1));
            for (int n = 3; n <= 24; n++) {
                due.is("convex(" + n + ") to the left", x.convex(n), 1);
            }
            Due.putRow(x, places(24, from, -1));
            for (int n = 3; n <= 24; n++) {
                due.is("convex(" + n + ") to the right", x.convex(n), -1);
            }
            due.is("convex(25)", x.convex(25), -2);
            due.is("convex(2)", x.convex(2), -2);
            Due.putRow(x, places(24, from, 7));
            due.is("a star", x.convex(24), 0);
        }
        // One PLACE of many that is not as the others are: in line, EQUAL to another, or within.
        for (int at = 0; at < 24; at++) {
            OrderJudge x = Due.withPoints(1, corners());
            int[] row = places(24, 0, 1);
            row[at] = (at + 1) % 24;
            Due.putRow(x, row);
            due.is("place " + at + " EQUAL to the next", x.convex(24), 0);
            row[at] = x.point(0, 20, 1);
            Due.putRow(x, row);
            due.is("place " + at + " within", x.convex(24), 0);
        }
        OrderJudge x = Due.withPoints(1, 0, 0, 4, 0, 4, 4, 2, 0, 4, 2, 2, 2);
        int[][] inLine = {{0, 3, 1, 2}, {0, 1, 4, 2}, {0, 1, 2, 5}, {3, 1, 2, 0}, {5, 0, 1, 2}, {4, 2, 0, 1}};
        for (int[] row : inLine) {
            Due.putRow(x, row);
            due.is("one PLACE on an EDGE's line", x.convex(4), 0);
        }
        x.of(0, -1);
        due.is("NOT", x.convex(4), -4);
        due.is("BAD ahead of NOT, too small", x.convex(2), -2);
        due.is("BAD ahead of NOT, too large", x.convex(5), -2);
    }

    // 15: "2: p lies on an EDGE of the first n PLACES; 1: an odd number of EDGES RISE or FALL at it; 0: an even one."
    private static void polygon(Due due) {
        int[] xy = corners();
        OrderJudge x = Due.withPoints(1, xy);
        int middle = x.point(3, 21, 1);
        Due.putRow(x, places(24, 0, 1));
        for (int p = 0; p < 24; p++) {
            due.is("corner " + p + " of 24", x.polygon(24, p), 2);
            due.is("corner " + p + " of the first 23", x.polygon(23, p), p == 23 ? 0 : 2);
            due.is("corner " + p + " of the first one", x.polygon(1, p), p == 0 ? 2 : 0);
            int level = x.point(100, xy[2 * p + 1], 1);
            due.is("level with corner " + p + ", to the right", x.polygon(24, level), 0);
        }
        due.is("within", x.polygon(24, middle), 1);
        due.is("BAD n", x.polygon(25, middle), -2);
        due.is("BAD n", x.polygon(0, middle), -2);
        due.is("BAD p", x.polygon(24, x.count(0)), -2);
        x.of(23, -1);
        due.is("NOT", x.polygon(24, middle), -4);
        due.is("BAD p ahead of NOT", x.polygon(24, x.count(0)), -2);
        due.is("NONE behind the first n", x.polygon(23, middle), 1);
    }

    // 16: "How often .. to the left: how many EDGES RISE at it, less how many FALL; 100: it lies on an EDGE. BAD and NOT: -100."
    private static void winding(Due due) {
        OrderJudge x = Due.withPoints(1, -3, -3, 4, -2, 0, 5, 0, 0, 0, 5, 100, 0);
        int[] there = new int[24], back = new int[24];
        for (int i = 0; i < 24; i++) {
            there[i] = i % 3;
            back[i] = 2 - i % 3;
        }
        Due.putRow(x, there);
        for (int n = 3; n <= 24; n += 3) {
            due.is("round " + n / 3 + " times to the left", x.winding(n, 3), n / 3);
            due.is("an even number or an odd one", x.polygon(n, 3), n / 3 % 2);
        }
        due.is("on an EDGE, however often", x.winding(24, 4), 100);
        due.is("outside", x.winding(24, 5), 0);
        Due.putRow(x, back);
        for (int n = 3; n <= 24; n += 3) {
            due.is("round " + n / 3 + " times to the right", x.winding(n, 3), -n / 3);
            due.is("an even number or an odd one", x.polygon(n, 3), n / 3 % 2);
        }
        due.is("one PLACE", x.winding(1, 3), 0);
        due.is("one PLACE, on it", x.winding(1, 4), 100);
        due.is("two PLACES", x.winding(2, 3), 0);
        due.is("BAD n", x.winding(25, 3), -100);
        due.is("BAD n", x.winding(0, 3), -100);
        due.is("BAD p", x.winding(24, 6), -100);
        due.is("BAD p", x.winding(24, -1), -100);
        x.of(0, -1);
        due.is("NOT", x.winding(1, 3), -100);
    }

    // 17: "Those of the first n PLACES that are nearest to a, as bits."
    private static void nearest(Due due) {
        OrderJudge x = new OrderJudge();
        for (int i = 0; i < 24; i++) {
            x.point(i % 2 == 0 ? 800 : -800, 800 - i, 1);
        }
        int middle = x.point(0, 0, 1), low = x.point(0, -800, 1), high = x.point(0, 800, 1), left = x.point(-1, -800, 12);
        Due.putRow(x, places(24, 0, 1));
        for (int n = 1; n <= 24; n++) {
            due.is("each nearer than those ahead of it: " + n, x.nearest(low, n), 1 << (n - 1));
            due.is("the first one nearest: " + n, x.nearest(high, n), 1);
        }
        due.is("the last of the left ones, by a hair", x.nearest(left, 24), 1 << 23);
        due.is("a itself is at a PLACE", x.nearest(5, 24), 1 << 5);
        Due.putRow(x, 0, 1, 0, 1, 0);
        due.is("a POINT at several PLACES", x.nearest(0, 5), 21);
        due.is("a POINT at several PLACES, of the first 4", x.nearest(1, 4), 10);
        Due.putRow(x, middle, middle, low);
        due.is("EQUAL ones alone", x.nearest(middle, 3), 3);
        due.is("BAD n", x.nearest(0, 4), -2);
        due.is("BAD n", x.nearest(0, 0), -2);
        due.is("BAD a", x.nearest(28, 3), -2);
        x.of(2, -1);
        due.is("BAD a ahead of NOT", x.nearest(-1, 3), -2);
        due.is("NOT", x.nearest(0, 3), -4);
        due.is("NONE behind the first n", x.nearest(0, 2), 3);
    }

    // 18: "first those EQUAL to c; then by directions, from that of growing X on to the left; of one direction the nearer first; then by PLACES"
    private static void around(Due due) {
        int[][] round = {{1, 0}, {9, 1}, {1, 1}, {1, 9}, {0, 1}, {-1, 9}, {-1, 1}, {-9, 1}, {-1, 0}, {-9, -1}, {-1, -1}, {-1, -9}, {0, -1}, {1, -9}, {1, -1}, {9, -1}};
        for (int turn = 0; turn < 24; turn++) {
            OrderJudge x = new OrderJudge();
            for (int[] r : round) {
                x.point(700 + r[0], -700 + r[1], 1);
            }
            int c = x.point(700, -700, 1), farEast = x.point(702, -700, 1), farWest = x.point(698, -700, 1), farSouth = x.point(700, -702, 1), same = x.point(700, -700, 1);
            int[] due24 = {c, same, c, 0, farEast, farEast, 1, 2, 3, 4, 5, 6, 7, 8, 8, farWest, 9, 10, 11, 12, farSouth, 13, 14, 15};
            int[] row = new int[24];
            for (int i = 0; i < 24; i++) {
                row[(i * 7 + turn) % 24] = due24[i];
            }
            Due.putRow(x, row);
            for (int i = 0; i < 24; i++) {
                due.is("POINT at " + i + " round c", row[x.around(c, 24, i)] == due24[i] || i < 3 ? 1 : 0, 1);
            }
            alikeByPlaces(due, x, row, c, same);
        }
        OrderJudge y = Due.withPoints(1, 0, 0, 1, 0, 2, 0);
        Due.putRow(y, 2, 1, 0, -1);
        due.is("the first", y.around(0, 3, 0), 2);
        due.is("the last", y.around(0, 3, 2), 0);
        due.is("BAD i", y.around(0, 3, 3), -2);
        due.is("BAD i", y.around(0, 3, -1), -2);
        due.is("NOT", y.around(0, 4, 3), -4);
        due.is("BAD i ahead of NOT", y.around(0, 4, 4), -2);
        due.is("BAD c ahead of NOT", y.around(3, 4, 0), -2);
        due.is("BAD n", y.around(0, 5, 4), -2);
        due.is("BAD n", y.around(0, 0, 0), -2);
    }

    // The three EQUAL to c come first, and those at one POINT, by PLACES.
    private static void alikeByPlaces(Due due, OrderJudge x, int[] row, int c, int same) {
        int found = 0;
        for (int place = 0; place < 24; place++) {
            if (row[place] == c || row[place] == same) {
                due.is("those EQUAL to c, by PLACES", x.around(c, 24, found), place);
                found++;
            }
        }
        due.is("three are EQUAL to c", found, 3);
        for (int i = 3; i < 23; i++) {
            int one = x.around(c, 24, i), next = x.around(c, 24, i + 1);
            if (row[one] == row[next]) {
                due.is("at one POINT, by PLACES", one < next ? 1 : 0, 1);
            }
        }
    }

    // 19: "The first n PLACES by X, then by Y, then by PLACES"
    private static void order(Due due) {
        OrderJudge x = new OrderJudge();
        for (int i = 0; i < 24; i++) {
            x.point(i / 6 * 533 - 800, i % 6 / 2 * 800 - 800, 1);
        }
        for (int n = 1; n <= 24; n += 23) {
            Due.putRow(x, places(24, 0, 1));
            due.is("the first of " + n, x.order(n, 0), 0);
            due.is("the last of " + n, x.order(n, n - 1), n - 1);
        }
        Due.putRow(x, places(24, 23, -1));
        for (int i = 0; i < 24; i++) {
            // Two by two they are EQUAL, and then the one at the earlier PLACE comes first.
            due.is("back: order(24, " + i + ")", x.order(24, i), i % 2 == 0 ? 22 - i : 24 - i);
        }
        due.is("BAD i", x.order(24, 24), -2);
        due.is("BAD i", x.order(24, -1), -2);
        due.is("BAD i of the first 5", x.order(5, 5), -2);
        due.is("BAD n", x.order(25, 0), -2);
        due.is("BAD n", x.order(0, 0), -2);
        x.of(4, -1);
        due.is("NOT", x.order(5, 4), -4);
        due.is("BAD i ahead of NOT", x.order(5, 5), -2);
        due.is("NONE behind the first n", x.order(4, 3), 1);
    }

    // 20: "by another number, towards 0. BAD, NOT: 0; ArithmeticException: by is 0."
    private static void area(Due due) {
        OrderJudge x = Due.withPoints(12, 0, 0, 7, 0, 0, 1, 5, 5);
        Due.putRow(x, 0, 1, 2, -1);
        long[][] left = {{1, 7}, {2, 3}, {3, 2}, {4, 1}, {7, 1}, {8, 0}, {-1, -7}, {-2, -3}, {-3, -2}, {-4, -1}, {-7, -1}, {-8, 0}, {Long.MAX_VALUE, 0}, {Long.MIN_VALUE, 0}, {1L << 32, 0}};
        for (long[] v : left) {
            due.is("7 by " + v[0], x.area(3, v[0]), v[1]);
        }
        Due.putRow(x, 2, 1, 0, -1);
        for (long[] v : left) {
            due.is("-7 by " + v[0], x.area(3, v[0]), -v[1]);
        }
        due.is("NOT", x.area(4, 1), 0);
        due.is("NOT ahead of by", x.area(4, 0), 0);
        due.is("BAD", x.area(5, 1), 0);
        due.is("BAD ahead of by", x.area(5, 0), 0);
        due.is("BAD ahead of by, n is 0", x.area(0, 0), 0);
        due.is("BAD ahead of by, n is below 0", x.area(MIN, 0), 0);
        due.throwing("by is 0", ArithmeticException.class, () -> x.area(3, 0));
        due.throwing("by is 0, of one PLACE", ArithmeticException.class, () -> x.area(1, 0));
        due.is("one PLACE", x.area(1, 1), 0);
        due.is("two PLACES", x.area(2, 1), 0);
        // The way has 24 sides, each with one against it; the area is that of all pairs of the 12 directions.
        due.is("24 PLACES", wayOf24().area(24, 1), 2L * 1086 * 144);
    }

    private static OrderJudge wayOf24() {
        OrderJudge x = Due.withPoints(1, corners());
        Due.putRow(x, places(24, 0, 1));
        return x;
    }

    // 21: "BAD; NOT: they are EQUAL; FULL."
    private static void line(Due due) {
        OrderJudge x = Due.withPoints(1, 0, 0, 1, 1, 0, 0);
        due.is("the first", x.line(0, 1), 0);
        due.is("the same again has a number of its own", x.line(0, 1), 1);
        due.is("the way back too", x.line(1, 2), 2);
        for (int i = 3; i < 12; i++) {
            x.line(1, 0);
        }
        due.is("FULL", x.line(0, 1), -3);
        due.is("NOT ahead of FULL", x.line(0, 2), -4);
        due.is("NOT ahead of FULL, the same", x.line(1, 1), -4);
        due.is("BAD ahead of FULL", x.line(3, 0), -2);
        due.is("BAD ahead of NOT and FULL", x.line(3, 3), -2);
        due.is("BAD ahead of NOT and FULL", x.line(-1, -1), -2);
        due.is("12", x.count(2), 12);
    }

    // 22: "Of the first n LINES (0 and more)"
    private static void lines(Due due) {
        OrderJudge bundle = Due.withPoints(1, 0, 0), beside = new OrderJudge(), net = new OrderJudge();
        for (int i = 0; i < 12; i++) {
            bundle.point(12 - i, i + 1, 1);
            bundle.line(0, i + 1);
            beside.point(i, 0, 1);
            beside.point(i + 3, 5, 1);
            beside.line(2 * i, 2 * i + 1);
            int across = i / 2;
            net.point(i % 2 == 0 ? across : 0, i % 2 == 0 ? 0 : across, 4);
            net.point(i % 2 == 0 ? across : 9, i % 2 == 0 ? 9 : across, 4);
            net.line(2 * i, 2 * i + 1);
        }
        for (int n = 0; n <= 12; n++) {
            int one = n >= 2 ? 1 : 0;
            all(due, n + " through one point", bundle, n, n, one, n == 0 ? 1 : 2 * n, n < 2 ? n : 2 * n, 0, n < 2 ? 0 : n);
            all(due, n + " side by side", beside, n, n, 0, n + 1, n, 0, 0);
            int up = (n + 1) / 2, level = n / 2;
            int closed = n < 2 ? 0 : (up - 1) * (level - 1);
            all(due, "a net of " + n, net, n, n, up * level, (up + 1) * (level + 1), up * (level + 1) + level * (up + 1), closed, n < 2 ? 0 : 2);
        }
        int[] bad = {-1, 13, MIN, MAX};
        for (int v : bad) {
            due.is("lines(" + v + ", 0)", net.lines(v, 0), -2);
            due.is("lines(12, " + (v == 13 ? 6 : v) + ")", net.lines(12, v == 13 ? 6 : v), -2);
            due.is("lines(" + v + ", 6)", net.lines(v, 6), -2);
        }
    }

    private static void all(Due due, String told, OrderJudge x, int n, int... want) {
        for (int what = 0; what < want.length; what++) {
            due.is(told + ": lines(" + n + ", " + what + ")", x.lines(n, what), want[what]);
        }
    }

    // 23: "0 POINTS, 1 PLACES, 2 LINES, 3 whether THE FILTER is on. BAD."
    private static void count(Due due) {
        OrderJudge x = new OrderJudge();
        for (int i = 0; i < 60; i++) {
            due.is("POINTS", x.count(0), i);
            x.point(i, i % 2, 1);
        }
        for (int i = 0; i < 12; i++) {
            due.is("LINES", x.count(2), i);
            x.line(i, i + 1);
        }
        for (int n = 24; n >= 0; n--) {
            x.size(n);
            due.is("PLACES", x.count(1), n);
        }
        due.is("60 POINTS", x.count(0), 60);
        due.is("12 LINES", x.count(2), 12);
        due.is("on", x.count(3), 1);
        x.filter(false);
        due.is("off", x.count(3), 0);
        int[] bad = {-1, 4, 5, MIN, MAX};
        for (int what : bad) {
            due.is("count(" + what + ")", x.count(what), -2);
        }
    }
}
