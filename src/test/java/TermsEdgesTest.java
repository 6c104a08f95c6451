/** "Terms" and "Answers": a method for each sentence that names a boundary case, in the document's order. */
public final class TermsEdgesTest {
    private static final int[] DOWNS = {1, 2, 3, 4, 6, 12};

    public static void main(String[] args) {
        Due due = new Due();
        pointsAreSixtyAtMost(due);
        theLastOf512Calls(due);
        coordinatesFrom800To800(due);
        downIsOneOfSix(due);
        coordinatesAreTwelveTimesThese(due);
        sameCoordinatesAreEqual(due);
        turnOfThree(due);
        turnOfEqualBeginAndEnd(due);
        ringOfFour(due);
        ringAtTheFarthest(due);
        filterDecidesIfMore(due);
        filterNeverDecidesZero(due);
        placesAre24AtMost(due);
        aPlaceHasAnyPointOrNone(due);
        aPointIsWantedInEachPlace(due);
        edgesGoFromTheLastToTheFirst(due);
        edgesRiseAndFall(due);
        linesAreTwelveAtMost(due);
        differentLines(due);
        meetsCellsPieces(due);
        due.end();
    }

    // "POINTS, 60 at most, are numbered from 0 on as they come"
    private static void pointsAreSixtyAtMost(Due due) {
        OrderJudge x = new OrderJudge();
        for (int i = 0; i < 60; i++) {
            due.is("a refused point takes no number", x.point(801, 0, 1), -2);
            due.is("the next number", x.point(i % 7, i, 2), i);
        }
        due.is("the 61st point", x.point(1, 1, 1), -3);
        due.is("the 61st point, again", x.point(1, 1, 1), -3);
        due.is("60 points stay", x.count(0), 60);
        x.size(1);
        due.is("the last number is a point", x.of(0, 59), -1);
        due.is("X of the last", x.at(0, 0), 6 * (59 % 7));
        due.is("Y of the last", x.at(0, 1), 6 * 59);
        due.is("the number behind it is none", x.of(0, 60), -2);
        due.is("the place keeps what it had", x.at(0, 2), 59);
        due.is("the first number is a point", x.of(0, 0), 59);
        due.is("X of the first", x.at(0, 0), 0);
    }

    // "An object is used for at most 512 calls after it has been made": the last of them is answered.
    private static void theLastOf512Calls(Due due) {
        OrderJudge x = Due.withPoints(1, 0, 0, 4, 0, 0, 4);
        for (int call = 4; call < 512; call++) {
            x.side(0, 1, call % 2 + 1);
        }
        due.is("the 512th call", x.decided(0), 254);
        OrderJudge y = Due.withPoints(1, 0, 0, 4, 0, 0, 4);
        for (int call = 4; call < 512; call++) {
            y.side(0, 1, 1);
        }
        due.is("the 512th call", y.decided(2), 508);
    }

    // "with x, y -800 .. 800"
    private static void coordinatesFrom800To800(Due due) {
        for (int down : DOWNS) {
            OrderJudge x = new OrderJudge();
            long[] ends = {-800, -799, 0, 799, 800};
            int number = 0;
            for (long v : ends) {
                for (long w : ends) {
                    due.is("point(" + v + ", " + w + ", " + down + ")", x.point(v, w, down), number);
                    number++;
                }
            }
            long[] beyond = {-801, 801, -802, 802, 9600, -9600, Integer.MIN_VALUE, Integer.MAX_VALUE, Long.MIN_VALUE, Long.MAX_VALUE, (1L << 32) + 800, -(1L << 32)};
            for (long v : beyond) {
                due.is("point(" + v + ", 800, " + down + ")", x.point(v, 800, down), -2);
                due.is("point(-800, " + v + ", " + down + ")", x.point(-800, v, down), -2);
                due.is("point(" + v + ", " + v + ", " + down + ")", x.point(v, v, down), -2);
            }
            due.is("refused ones are none", x.count(0), number);
        }
    }

    // "down 1, 2, 3, 4, 6 or 12"
    private static void downIsOneOfSix(Due due) {
        OrderJudge x = new OrderJudge();
        int number = 0;
        for (long down = -150; down <= 150; down++) {
            boolean fine = down == 1 || down == 2 || down == 3 || down == 4 || down == 6 || down == 12;
            due.is("point(7, -7, " + down + ")", x.point(7, -7, down), fine ? number++ : -2);
        }
        long[] wrapped = {1L << 32, (1L << 32) + 1, (1L << 32) + 12, (1L << 33) + 6, -(1L << 32) + 1, Integer.MIN_VALUE, Long.MIN_VALUE, Long.MAX_VALUE};
        for (long down : wrapped) {
            due.is("point(7, -7, " + down + ")", x.point(7, -7, down), -2);
        }
        due.is("six of them", x.count(0), 6);
    }

    // "X, Y of one are 12 times these: whole numbers"
    private static void coordinatesAreTwelveTimesThese(Due due) {
        int[][] v = {{800, -800}, {-800, 800}, {1, -1}, {0, 7}, {-13, 0}};
        for (int[] at : v) {
            for (int down : DOWNS) {
                OrderJudge x = Due.withPoints(down, at);
                Due.putRow(x, 0);
                due.is("X of " + at[0] + " / " + down, x.at(0, 0), at[0] * 12 / down);
                due.is("Y of " + at[1] + " / " + down, x.at(0, 1), at[1] * 12 / down);
            }
        }
        OrderJudge far = Due.withPoints(1, 800, -800);
        Due.putRow(far, 0);
        due.is("the greatest X", far.at(0, 0), 9600);
        due.is("the least Y", far.at(0, 1), -9600);
    }

    // "POINTS with the same X, Y are EQUAL"
    private static void sameCoordinatesAreEqual(Due due) {
        OrderJudge x = new OrderJudge();
        for (int down : DOWNS) {
            x.point(5 * down, -3 * down, down);
        }
        int sameX = x.point(5, -2, 1), sameY = x.point(4, -3, 1), turned = x.point(-3, 5, 1);
        for (int a = 0; a < DOWNS.length; a++) {
            for (int b = 0; b < DOWNS.length; b++) {
                due.is("EQUAL, whatever their down: side", x.side(a, b, sameX), -4);
                due.is("EQUAL, whatever their down: line", x.line(a, b), -4);
                due.is("EQUAL, whatever their down: between", x.between(a, b, sameX), 2);
            }
        }
        due.is("the same X alone is not EQUAL", x.line(0, sameX), 0);
        due.is("the same Y alone is not EQUAL", x.line(0, sameY), 1);
        due.is("X and Y in each other's stead are not EQUAL", x.line(0, turned), 2);
        due.is("not EQUAL: side", x.side(0, sameX, sameY), 1);
    }

    // "1: c lies to the left of the way from a to b, -1: to the right, 0: in line"
    private static void turnOfThree(Due due) {
        int[][] round = {{1, 0}, {1, 1}, {0, 1}, {-1, 1}, {-1, 0}, {-1, -1}, {0, -1}, {1, -1}};
        for (int b = 0; b < 8; b++) {
            for (int c = 0; c < 8; c++) {
                OrderJudge x = Due.withPoints(12, 799, -799, 799 + round[b][0], -799 + round[b][1], 799 + round[c][0], -799 + round[c][1]);
                int steps = (c - b + 8) % 8;
                int want = steps % 4 == 0 ? 0 : steps < 4 ? 1 : -1;
                due.is("TURN, directions " + b + " and " + c, x.side(0, 1, 2), want);
            }
        }
        // TURN's number is 1599 * 1599 - 1600 * 1598: the least that is not 0.
        OrderJudge far = Due.withPoints(12, -800, -800, 799, 800, 798, 799, 800, 800, 0, 0);
        due.is("the least to the left", far.side(0, 1, 2), 1);
        due.is("the least to the right", far.side(1, 0, 2), -1);
        due.is("the farthest in line", far.side(0, 3, 4), 0);
        OrderJudge most = Due.withPoints(1, -800, -800, 800, -800, 800, 800, -800, 800);
        due.is("the greatest turn to the left", most.side(0, 1, 2), 1);
        due.is("the greatest turn to the right", most.side(0, 3, 2), -1);
        due.is("the greatest turn, from another corner", most.side(2, 3, 0), 1);
    }

    // "0: in line (or a, b are EQUAL)": side() refuses that, but an EDGE may be so.
    private static void turnOfEqualBeginAndEnd(Due due) {
        OrderJudge x = Due.withPoints(1, 0, 0, 4, 0, 4, 4, 0, 0);
        Due.putRow(x, 0, 3, 1, 2);
        due.is("an EDGE of EQUAL POINTS: nothing is to its left", x.convex(4), 0);
        Due.putRow(x, 2, 1, 3, 0);
        due.is("an EDGE of EQUAL POINTS: nothing is to its right", x.convex(4), 0);
        Due.putRow(x, 0, 0, 0);
        due.is("three EQUAL", x.convex(3), 0);
    }

    // "1: d lies within the circle through a, b, c, 0: on it, -1: outside", whichever way a, b, c go round
    private static void ringOfFour(Due due) {
        OrderJudge x = Due.withPoints(12, 25, 0, 0, 25, -7, -24, 24, 7, 24, 6, 24, 8, 25, 1, 0, 0);
        int[][] ways = {{0, 1, 2}, {1, 2, 0}, {2, 0, 1}, {2, 1, 0}, {1, 0, 2}, {0, 2, 1}};
        for (int[] w : ways) {
            due.is("on it", x.circle(w[0], w[1], w[2], 3), 0);
            due.is("within by a hair", x.circle(w[0], w[1], w[2], 4), 1);
            due.is("outside by a hair", x.circle(w[0], w[1], w[2], 5), -1);
            due.is("outside, beside a", x.circle(w[0], w[1], w[2], 6), -1);
            due.is("the middle", x.circle(w[0], w[1], w[2], 7), 1);
            for (int same = 0; same < 3; same++) {
                due.is("d is one of them", x.circle(w[0], w[1], w[2], same), 0);
            }
        }
    }

    // The greatest numbers that RING comes to: a sum in int, or in double, would go wrong.
    private static void ringAtTheFarthest(Due due) {
        int[] corners = {800, 800, -800, 800, -800, -800, 800, -800};
        int[][] hair = {{-1, 0}, {0, -1}, {1, 0}, {0, 1}};
        for (int d = 0; d < 4; d++) {
            OrderJudge x = Due.withPoints(1, corners);
            int a = (d + 1) % 4, b = (d + 2) % 4, c = (d + 3) % 4;
            due.is("the fourth corner", x.circle(a, b, c, d), 0);
            for (int[] h : hair) {
                // So far away 1 is the least step, and two of the four lead out of the plane's points.
                int inner = x.point(corners[2 * d] + h[0], corners[2 * d + 1] + h[1], 1);
                if (inner >= 0) {
                    due.is("beside the fourth corner", x.circle(a, b, c, inner), 1);
                    due.is("the corner, seen from beside it", x.circle(a, inner, c, d), -1);
                }
            }
        }
        // A flat circle: its radius is far beyond the plane's points.
        OrderJudge flat = Due.withPoints(1, -800, 0, 800, 0, 0, -1, 1, -1, -1, -1, 400, -1, 0, 0);
        due.is("a flat circle: its foot's neighbour is outside", flat.circle(0, 1, 2, 3), -1);
        due.is("a flat circle: the other neighbour", flat.circle(0, 1, 2, 4), -1);
        due.is("a flat circle: half-way", flat.circle(0, 1, 2, 5), -1);
        due.is("a flat circle: the chord is within", flat.circle(0, 1, 2, 6), 1);
    }

    // "It DECIDES, if the size of what comes is more than SIZE * SIZE * .."
    private static void filterDecidesIfMore(Due due) {
        // SIZE 512 makes the bound of TURN 1; b = (512, 511) and c = (1, 1) make TURN's number 1, (512, 510) 2.
        int[][] bounds = {{512, 511, 0}, {512, 510, 1}, {511, 512, 0}, {510, 512, 1}};
        int[][] signs = {{1, 1}, {-1, 1}, {1, -1}, {-1, -1}};
        for (int[] b : bounds) {
            for (int[] s : signs) {
                OrderJudge x = Due.withPoints(1, 0, 0, s[0] * b[0], s[1] * b[1], s[0], s[1]);
                due.is("TURN beside the bound is exact all the same", x.side(0, 1, 2) * s[0] * s[1], b[0] > b[1] ? 1 : -1);
                due.is("TURN " + (b[2] == 1 ? "above" : "at") + " the bound, decided", x.decided(0), b[2]);
                due.is("TURN " + (b[2] == 1 ? "above" : "at") + " the bound, not decided", x.decided(1), 1 - b[2]);
            }
        }
        // SIZE 16 makes the bound of RING 16; these come to 16 and to 18.
        int[] at = {-7, -15, -6, -15, 5, -11, 7, 16}, above = {-5, -10, 5, -13, -6, 16, 4, -13};
        for (int[] s : signs) {
            for (int turned = 0; turned < 2; turned++) {
                OrderJudge x = mirrored(at, s, turned == 1), y = mirrored(above, s, turned == 1);
                due.is("RING at the bound", x.circle(0, 1, 2, 3), 1);
                due.is("RING at the bound is not decided", x.decided(0), 0);
                due.is("RING above the bound", y.circle(0, 1, 2, 3), 1);
                due.is("RING above the bound is decided", y.decided(0), 1);
            }
        }
    }

    private static OrderJudge mirrored(int[] xy, int[] signs, boolean turned) {
        OrderJudge x = new OrderJudge();
        for (int i = 0; i < xy.length; i += 2) {
            int v = xy[i] * signs[0], w = xy[i + 1] * signs[1];
            x.point(turned ? w : v, turned ? v : w, 1);
        }
        return x;
    }

    // "a quick filter that decides what is clear, and never what is 0": thirds, that floats round, in line and on a circle
    private static void filterNeverDecidesZero(Due due) {
        int zeros = 0;
        OrderJudge x = new OrderJudge();
        for (int i = 0; i < 20; i++) {
            x.point(40 * i - 400, 33 * i - 311, 3);
        }
        for (int i = 0; i < 18; i++) {
            due.is("in line", x.side(i, i + 1, (i + 7) % 20), 0);
            due.is("in line", x.side(i, (i + 11) % 20, i + 2), 0);
            zeros += 2;
        }
        due.is("in line: none decided", x.decided(0), 0);
        due.is("in line: not decided", x.decided(1), zeros);
        due.is("in line: told 0", x.decided(2), zeros);
        // All on the circle round (100, -50) thirds, whose radius is 325 thirds.
        int[][] wheel = {{325, 0}, {315, 80}, {312, 91}, {300, 125}, {280, 165}, {260, 195}, {253, 204}, {204, 253}, {36, 323}, {-195, 260}, {-323, -36}, {-91, -312}, {125, -300}};
        OrderJudge y = new OrderJudge();
        for (int[] w : wheel) {
            y.point(100 + w[0], -50 + w[1], 3);
        }
        for (int i = 0; i < 13; i++) {
            due.is("on a circle", y.circle(i, (i + 2) % 13, (i + 5) % 13, (i + 9) % 13), 0);
        }
        due.is("on a circle: none decided", y.decided(0), 0);
        due.is("on a circle: told 0", y.decided(2), 13);
    }

    // "THE ROW has up to 24 PLACES (none at first)"
    private static void placesAre24AtMost(Due due) {
        OrderJudge x = Due.withPoints(1, 3, 4);
        due.is("none at first", x.count(1), 0);
        due.throwing("none at first: at", ArrayIndexOutOfBoundsException.class, () -> x.at(0, 2));
        due.throwing("none at first: of", ArrayIndexOutOfBoundsException.class, () -> x.of(0, 0));
        due.is("none at first: order", x.order(1, 0), -2);
        due.is("24", x.size(24), 0);
        for (int i = 0; i < 24; i++) {
            due.throwing("NONE at first at place " + i, NullPointerException.class, at(x, i));
            due.is("place " + i, x.of(i, 0), -1);
        }
        due.throwing("place 24", ArrayIndexOutOfBoundsException.class, () -> x.of(24, 0));
        due.is("25", x.size(25), -2);
        due.is("24 stay", x.count(1), 24);
        due.is("their points stay", x.nearest(0, 24), (1 << 24) - 1);
    }

    private static Due.Call at(OrderJudge x, int i) {
        return () -> x.at(i, 2);
    }

    // "each with a POINT, or NONE": one POINT may be at several PLACES
    private static void aPlaceHasAnyPointOrNone(Due due) {
        OrderJudge x = Due.withPoints(1, 0, 0, 4, 0);
        x.size(3);
        due.is("a POINT at a PLACE", x.of(0, 1), -1);
        due.is("the same at another", x.of(2, 1), -1);
        due.is("the first keeps it", x.at(0, 2), 1);
        due.is("one of them gets NONE", x.of(0, -1), 1);
        due.is("the other one keeps it", x.at(2, 2), 1);
        due.throwing("the one has NONE", NullPointerException.class, () -> x.at(0, 2));
        due.throwing("the one between them has NONE still", NullPointerException.class, () -> x.at(1, 2));
    }

    // "Calls that tell of its first n PLACES want a POINT in each of them (NOT, if one has NONE)"
    private static void aPointIsWantedInEachPlace(Due due) {
        for (int gap = 0; gap < 5; gap++) {
            OrderJudge x = Due.withPoints(1, 0, 0, 6, 0, 8, 4, 3, 9, -2, 4, 3, 3);
            Due.putRow(x, 0, 1, 2, 3, 4);
            x.of(gap, -1);
            for (int n = 1; n <= 5; n++) {
                boolean not = gap < n;
                String told = "NONE at place " + gap + " of the first " + n + ": ";
                if (n >= 3) {
                    due.is(told + "convex", x.convex(n), not ? -4 : 1);
                }
                due.is(told + "polygon", x.polygon(n, 0), not ? -4 : 2);
                due.is(told + "winding", x.winding(n, 0), not ? -100 : 100);
                due.is(told + "nearest", x.nearest(0, n), not ? -4 : 1);
                due.is(told + "around", x.around(0, n, 0), not ? -4 : 0);
                due.is(told + "order", x.order(n, n - 1), not ? -4 : Math.min(n - 1, 2));
                due.is(told + "area", x.area(n, 24 * 36) > 0 ? 1 : 0, not || n < 3 ? 0 : 1);
            }
        }
    }

    // "An EDGE goes from each of these PLACES to the next one, from the last to the first"
    private static void edgesGoFromTheLastToTheFirst(Due due) {
        OrderJudge x = Due.withPoints(1, 0, 0, 8, 0, 8, 8, 0, 8, 0, 4, 4, 4, 8, 4, 4, 1, 6, 2);
        Due.putRow(x, 0, 1, 2, 3);
        due.is("on the EDGE from the last to the first", x.polygon(4, 4), 2);
        due.is("on the EDGE from the last to the first", x.winding(4, 4), 100);
        due.is("of three it is another one", x.polygon(3, 5), 2);
        due.is("so this one lies on none", x.polygon(3, 4), 0);
        due.is("of two it is the way back", x.polygon(2, 5), 0);
        for (int first = 0; first < 4; first++) {
            Due.putRow(x, first, (first + 1) % 4, (first + 2) % 4, (first + 3) % 4);
            due.is("whichever is the first: convex", x.convex(4), 1);
            due.is("whichever is the first: polygon", x.polygon(4, 8), 1);
            due.is("whichever is the first: winding", x.winding(4, 7), 1);
            due.is("whichever is the first: on an EDGE", x.winding(4, 6), 100);
            due.is("whichever is the first: area", x.area(4, 144), 128);
        }
    }

    // "It RISES at a POINT p, if Y of its beginning is not above that of p, Y of its end is, and TURN .. is 1; it FALLS .."
    private static void edgesRiseAndFall(Due due) {
        // Of the way 0, 1, 2, 3 (and back to 0) each corner in turn lies at the height of p, on both sides of it.
        int[][] corners = {{6, -3}, {6, 0}, {6, 3}, {-6, 3}, {-6, 0}, {-6, -3}};
        int[][] asked = {{0, 0, 1}, {-7, 0, 0}, {7, 0, 0}, {-7, 3, 0}, {7, 3, 0}, {-7, -3, 0}, {7, -3, 0}, {-6, 0, 2}, {6, 0, 2}, {0, 3, 2}, {0, -3, 2}, {6, 3, 2}};
        for (int first = 0; first < 6; first++) {
            for (int[] p : asked) {
                OrderJudge there = new OrderJudge(), back = new OrderJudge();
                for (int i = 0; i < 6; i++) {
                    int[] to = corners[(first + i) % 6], from = corners[(first + 6 - i) % 6];
                    there.point(to[0], to[1], 1);
                    back.point(from[0], from[1], 1);
                }
                there.point(p[0], p[1], 1);
                back.point(p[0], p[1], 1);
                Due.putRow(there, 0, 1, 2, 3, 4, 5);
                Due.putRow(back, 0, 1, 2, 3, 4, 5);
                String where = "(" + p[0] + ", " + p[1] + "), from corner " + first;
                due.is("polygon at " + where, there.polygon(6, 6), p[2]);
                due.is("polygon, back, at " + where, back.polygon(6, 6), p[2]);
                due.is("winding at " + where, there.winding(6, 6), p[2] == 2 ? 100 : p[2]);
                due.is("winding, back, at " + where, back.winding(6, 6), p[2] == 2 ? 100 : -p[2]);
            }
        }
        // A level EDGE neither rises nor falls; a corner that only touches the height counts twice or not at all.
        OrderJudge crown = Due.withPoints(1, 0, 0, 12, 0, 12, 6, 9, 3, 6, 6, 3, 3, 0, 6, -1, 3, 4, 3, 6, 3, 10, 3, 13, 3, 1, 3, -1, 6, 13, 6, 5, 6);
        Due.putRow(crown, 0, 1, 2, 3, 4, 5, 6);
        int[] want = {0, 1, 1, 1, 0, 1, 0, 0, 0};
        for (int i = 0; i < want.length; i++) {
            due.is("a crown: polygon " + i, crown.polygon(7, 7 + i), want[i]);
            due.is("a crown: winding " + i, crown.winding(7, 7 + i), want[i]);
        }
    }

    // "LINES, 12 at most, are numbered from 0 on, each through two POINTS that are not EQUAL"
    private static void linesAreTwelveAtMost(Due due) {
        OrderJudge x = Due.withPoints(1, 0, 0, 4, 0, 0, 4, 0, 0);
        for (int i = 0; i < 12; i++) {
            due.is("a refused line takes no number", x.line(0, 3), -4);
            due.is("line " + i, x.line(i % 2, 2), i);
        }
        due.is("the 13th line", x.line(0, 1), -3);
        due.is("12 lines", x.count(2), 12);
        due.is("two of them are different", x.lines(12, 0), 2);
        due.is("the 13th is not among them", x.lines(13, 0), -2);
    }

    // "the DIFFERENT ones": one line told by other points, the other way round, or far away, is the same
    private static void differentLines(Due due) {
        OrderJudge x = Due.withPoints(12, -800, -800, 800, 800, 0, 0, 1, 1, -1, -1, 1, 0, 0, 1);
        int[][] same = {{0, 1}, {1, 0}, {2, 3}, {3, 4}, {4, 0}, {1, 2}};
        for (int[] s : same) {
            x.line(s[0], s[1]);
        }
        due.is("the same six times", x.lines(6, 0), 1);
        x.line(5, 1);
        due.is("a hair away", x.lines(7, 0), 2);
        x.line(6, 0);
        due.is("a hair to the other side", x.lines(8, 0), 3);
        OrderJudge beside = Due.withPoints(12, 0, 0, 0, 12, 1, 0, 1, 12, 0, 1, 12, 1, 12, 0);
        beside.line(0, 1);
        beside.line(2, 3);
        due.is("upright ones a hair apart", beside.lines(2, 0), 2);
        beside.line(4, 5);
        beside.line(0, 6);
        due.is("level ones a hair apart", beside.lines(4, 0), 4);
        OrderJudge origin = Due.withPoints(1, -3, -5, 3, 5, 3, -5, -3, 5, 0, 0, 6, 10);
        origin.line(0, 1);
        origin.line(2, 3);
        due.is("two through (0, 0)", origin.lines(2, 0), 2);
        origin.line(4, 5);
        due.is("one of them again", origin.lines(3, 0), 2);
    }

    // "MEETS: the different points where DIFFERENT ones cross; CELLS: the parts of the plane that they leave; PIECES: .."
    private static void meetsCellsPieces(Due due) {
        OrderJudge x = Due.withPoints(1, 0, 0, 6, 0, 0, 6, 6, 6, 3, 3, 3, 0, 0, 3);
        all(due, "none", x, 0, 0, 1, 0, 0, 0);
        x.line(0, 1);
        all(due, "one", x, 1, 0, 2, 1, 0, 0);
        x.line(1, 5);
        all(due, "the same again: no MEET with itself", x, 1, 0, 2, 1, 0, 0);
        x.line(2, 3);
        all(due, "side by side: no MEET", x, 2, 0, 3, 2, 0, 0);
        x.line(0, 2);
        all(due, "across", x, 3, 2, 6, 7, 0, 2);
        x.line(0, 3);
        all(due, "a third through one MEET is no other MEET", x, 4, 3, 9, 11, 1, 3);
        x.line(1, 2);
        all(due, "a second triple", x, 5, 5, 13, 17, 3, 3);
        x.line(4, 5);
        all(due, "an upright one through the middle", x, 6, 7, 17, 23, 5, 3);
        x.line(4, 6);
        all(due, "a level one through the middle: four of them", x, 7, 8, 20, 27, 6, 4);
    }

    private static void all(Due due, String told, OrderJudge x, int... want) {
        for (int what = 0; what < want.length; what++) {
            due.is(told + ": lines(" + x.count(2) + ", " + what + ")", x.lines(x.count(2), what), want[what]);
        }
    }
}
