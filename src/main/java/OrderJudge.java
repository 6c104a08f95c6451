/**
 * Orders of points in the plane by exact signs. Every answer is reckoned in whole numbers: the
 * coordinates are held twelvefold (X, Y), so that no difference and no product is ever rounded.
 */
public final class OrderJudge {
    public static final int NONE = -1, BAD = -2, FULL = -3, NOT = -4;

    private static final int MOST_POINTS = 60;
    private static final int MOST_PLACES = 24;
    private static final int MOST_LINES = 12;
    private static final int FARTHEST = 800;
    private static final int SCALE = 12;
    private static final int FINE = 0;
    private static final int ON_EDGE = 100;
    private static final int NO_WINDING = -100;

    private final Points points;
    private final QuickFilter quick;
    private final Few few;
    private final Row row;
    private final LineSet lineSet;

    public OrderJudge() {
        points = new Points();
        quick = new QuickFilter(points);
        few = new Few(points);
        row = new Row(points);
        lineSet = new LineSet(points);
    }

    public int point(long x, long y, long down) {
        if (!isCoordinate(x) || !isCoordinate(y) || !isDown(down)) {
            return BAD;
        }
        int factor = SCALE / (int) down;
        return points.add((int) x * factor, (int) y * factor);
    }

    // ---- the row

    public int size(int n) throws NegativeArraySizeException {
        if (n < 0) {
            throw new NegativeArraySizeException("n is below 0");
        }
        if (n > MOST_PLACES) {
            return BAD;
        }
        return row.resize(n);
    }

    public int of(int i, int point) throws ArrayIndexOutOfBoundsException {
        if (point != NONE && !points.has(point)) {
            return BAD;
        }
        if (!row.hasPlace(i)) {
            throw new ArrayIndexOutOfBoundsException("no such place");
        }
        return row.put(i, point);
    }

    public int at(int i, int what) throws ArrayIndexOutOfBoundsException, NullPointerException {
        if (!row.hasPlace(i)) {
            throw new ArrayIndexOutOfBoundsException("no such place");
        }
        int held = row.places[i];
        if (!points.has(held)) {
            throw new NullPointerException("the place has no point");
        }
        if (what == 0) {
            return points.xs[held];
        }
        return what == 1 ? points.ys[held] : held;
    }

    // ---- signs

    public int side(int a, int b, int c) {
        if (!points.hasAll(a, b, c)) {
            return BAD;
        }
        if (points.equal(a, b)) {
            return NOT;
        }
        return quick.note(quick.decidesTurn(a, b, c), points.turn(a, b, c));
    }

    public int circle(int a, int b, int c, int d) {
        if (!points.hasAll(a, b, c) || !points.has(d)) {
            return BAD;
        }
        if (points.turn(a, b, c) == 0) {
            return NOT;
        }
        return quick.note(quick.decidesRing(a, b, c, d), points.ring(a, b, c, d));
    }

    public int filter(boolean on) {
        int before = quick.on ? 1 : 0;
        quick.on = on;
        return before;
    }

    public int decided(int what) {
        switch (what) {
            case 0: return quick.clear;
            case 1: return quick.unclear;
            case 2: return quick.zeros;
            default: return BAD;
        }
    }

    // ---- orders of a few

    public int between(int a, int b, int c) {
        return points.hasAll(a, b, c) ? few.betweenness(a, b, c) : BAD;
    }

    public int inside(int a, int b, int c, int d) {
        if (!points.hasAll(a, b, c) || !points.has(d)) {
            return BAD;
        }
        if (points.equal(a, b) || points.equal(a, c)) {
            return NOT;
        }
        return few.withinAngle(a, b, c, d);
    }

    public int cross(int a, int b, int c, int d) {
        if (!points.hasAll(a, b, c) || !points.has(d)) {
            return BAD;
        }
        return few.crossing(a, b, c, d);
    }

    public int separated(int a, int b, int c, int d) {
        if (!points.hasAll(a, b, c) || !points.has(d)) {
            return BAD;
        }
        return few.separation(a, b, c, d);
    }

    // ---- orders of the row

    public int convex(int n) {
        int fault = row.fault(n, 3);
        return fault == FINE ? row.convexity(n) : fault;
    }

    public int polygon(int n, int p) {
        int fault = points.has(p) ? row.fault(n, 1) : BAD;
        if (fault != FINE) {
            return fault;
        }
        if (row.anyEdgeHolds(n, p)) {
            return 2;
        }
        return (row.risesAt(n, p) + row.fallsAt(n, p)) % 2;
    }

    public int winding(int n, int p) {
        if (!points.has(p) || row.fault(n, 1) != FINE) {
            return NO_WINDING;
        }
        if (row.anyEdgeHolds(n, p)) {
            return ON_EDGE;
        }
        return row.risesAt(n, p) - row.fallsAt(n, p);
    }

    public int nearest(int a, int n) {
        int fault = points.has(a) ? row.fault(n, 1) : BAD;
        return fault == FINE ? row.nearestBits(a, n) : fault;
    }

    public int around(int c, int n, int i) {
        int fault = points.has(c) && i >= 0 && i < n ? row.fault(n, 1) : BAD;
        return fault == FINE ? row.placeRound(c, n, i) : fault;
    }

    public int order(int n, int i) {
        int fault = i >= 0 && i < n ? row.fault(n, 1) : BAD;
        return fault == FINE ? row.placeAlong(n, i) : fault;
    }

    public long area(int n, long by) throws ArithmeticException {
        if (row.fault(n, 1) != FINE) {
            return 0;
        }
        if (by == 0) {
            throw new ArithmeticException("by is 0");
        }
        return row.crossSum(n) / by;
    }

    // ---- lines

    public int line(int a, int b) {
        if (!points.has(a) || !points.has(b)) {
            return BAD;
        }
        if (points.equal(a, b)) {
            return NOT;
        }
        return lineSet.add(a, b);
    }

    public int lines(int n, int what) {
        if (n < 0 || n > lineSet.held || what < 0 || what > 5) {
            return BAD;
        }
        lineSet.survey(n);
        switch (what) {
            case 0: return lineSet.different;
            case 1: return lineSet.meets;
            case 2: return lineSet.cells();
            case 3: return lineSet.pieces();
            case 4: return lineSet.closedCells();
            default: return lineSet.mostThrough;
        }
    }

    public int count(int what) {
        switch (what) {
            case 0: return points.held;
            case 1: return row.held;
            case 2: return lineSet.held;
            case 3: return quick.on ? 1 : 0;
            default: return BAD;
        }
    }

    private static boolean isCoordinate(long v) {
        return v >= -FARTHEST && v <= FARTHEST;
    }

    private static boolean isDown(long down) {
        return down > 0 && down <= SCALE && SCALE % down == 0;
    }

    private static int signOf(long v) {
        return Long.compare(v, 0L);
    }

    /** The points and their exact signs; only held points may be named to the signs. */
    private static final class Points {
        final int[] xs = new int[MOST_POINTS];
        final int[] ys = new int[MOST_POINTS];
        int held = 0;

        int add(int x, int y) {
            if (held >= MOST_POINTS) {
                return FULL;
            }
            xs[held] = x;
            ys[held] = y;
            held++;
            return held - 1;
        }

        boolean has(int p) {
            return p >= 0 && p < held;
        }

        boolean hasAll(int a, int b, int c) {
            return has(a) && has(b) && has(c);
        }

        boolean equal(int a, int b) {
            return compare(a, b) == 0;
        }

        int compare(int a, int b) {
            int byX = Integer.compare(xs[a], xs[b]);
            return byX != 0 ? byX : Integer.compare(ys[a], ys[b]);
        }

        int turn(int a, int b, int c) {
            long left = (long) (xs[b] - xs[a]) * (ys[c] - ys[a]);
            long right = (long) (ys[b] - ys[a]) * (xs[c] - xs[a]);
            return signOf(left - right);
        }

        // Differences stay within 19,200, so the sum stays below 2 to the 61: a long holds it.
        int ring(int a, int b, int c, int d) {
            long xa = xs[a] - xs[d], ya = ys[a] - ys[d];
            long xb = xs[b] - xs[d], yb = ys[b] - ys[d];
            long xc = xs[c] - xs[d], yc = ys[c] - ys[d];
            long sum = (xa * xa + ya * ya) * (xb * yc - yb * xc)
                    + (xb * xb + yb * yb) * (xc * ya - yc * xa)
                    + (xc * xc + yc * yc) * (xa * yb - ya * xb);
            return turn(a, b, c) * signOf(sum);
        }

        long distance(int a, int b) {
            long x = xs[a] - xs[b], y = ys[a] - ys[b];
            return x * x + y * y;
        }

        boolean onSegment(int a, int b, int p) {
            return turn(a, b, p) == 0 && liesAmong(xs[a], xs[b], xs[p]) && liesAmong(ys[a], ys[b], ys[p]);
        }

        boolean sameDirection(int from, int a, int b) {
            long along = (long) (xs[a] - xs[from]) * (xs[b] - xs[from])
                    + (long) (ys[a] - ys[from]) * (ys[b] - ys[from]);
            return along > 0 && turn(from, a, b) == 0;
        }

        private static boolean liesAmong(int end, int other, int v) {
            return v >= Math.min(end, other) && v <= Math.max(end, other);
        }
    }

    /**
     * Tells what floats alone would settle. Its bounds lie above all that rounding can add up to,
     * so what it decides has the exact sign; the answers themselves need it for nothing.
     */
    private static final class QuickFilter {
        private final Points points;
        boolean on = true;
        int clear = 0;
        int unclear = 0;
        int zeros = 0;

        QuickFilter(Points points) {
            this.points = points;
        }

        int note(boolean decides, int sign) {
            if (on && decides) {
                clear++;
            } else {
                unclear++;
            }
            if (sign == 0) {
                zeros++;
            }
            return sign;
        }

        boolean decidesTurn(int a, int b, int c) {
            float left = (floatX(b) - floatX(a)) * (floatY(c) - floatY(a));
            float right = (floatY(b) - floatY(a)) * (floatX(c) - floatX(a));
            float size = greater(greater(reach(a), reach(b)), reach(c));
            return unsigned(left - right) > size * size * 0.000003814697265625f;
        }

        boolean decidesRing(int a, int b, int c, int d) {
            float xa = floatX(a) - floatX(d), ya = floatY(a) - floatY(d);
            float xb = floatX(b) - floatX(d), yb = floatY(b) - floatY(d);
            float xc = floatX(c) - floatX(d), yc = floatY(c) - floatY(d);
            float partA = (xa * xa + ya * ya) * (xb * yc - yb * xc);
            float partB = (xb * xb + yb * yb) * (xc * ya - yc * xa);
            float partC = (xc * xc + yc * yc) * (xa * yb - ya * xb);
            float size = greater(greater(reach(a), reach(b)), greater(reach(c), reach(d)));
            float bound = (size * size) * (size * size) * 0.000244140625f;
            return unsigned((partA + partB) + partC) > bound;
        }

        private float floatX(int p) {
            return (float) points.xs[p] / 12.0f;
        }

        private float floatY(int p) {
            return (float) points.ys[p] / 12.0f;
        }

        private float reach(int p) {
            return greater(unsigned(floatX(p)), unsigned(floatY(p)));
        }

        private static float greater(float a, float b) {
            return a >= b ? a : b;
        }

        private static float unsigned(float v) {
            return v < 0.0f ? -v : v;
        }
    }

    /** Orders of three or four points, all of them held. */
    private static final class Few {
        private final Points points;

        Few(Points points) {
            this.points = points;
        }

        int betweenness(int a, int b, int c) {
            if (points.equal(b, a) || points.equal(b, c)) {
                return 2;
            }
            return points.onSegment(a, c, b) ? 1 : 0;
        }

        int withinAngle(int a, int b, int c, int d) {
            if (points.equal(a, d) || points.sameDirection(a, b, d) || points.sameDirection(a, c, d)) {
                return 2;
            }
            // With b and c in one direction, nothing is to the left of b and to the right of c.
            boolean leftOfB = points.turn(a, b, d) > 0;
            boolean rightOfC = points.turn(a, c, d) < 0;
            // Beyond a half turn the angle is all that the narrow one from c to b leaves.
            boolean wide = points.turn(a, b, c) < 0;
            boolean within = wide ? leftOfB || rightOfC : leftOfB && rightOfC;
            return within ? 1 : 0;
        }

        int crossing(int a, int b, int c, int d) {
            int sideOfC = points.turn(a, b, c), sideOfD = points.turn(a, b, d);
            int sideOfA = points.turn(c, d, a), sideOfB = points.turn(c, d, b);
            if (sideOfC == 0 && sideOfD == 0 && sideOfA == 0 && sideOfB == 0) {
                return overlap(a, b, c, d);
            }
            if (points.onSegment(a, b, c) || points.onSegment(a, b, d)
                    || points.onSegment(c, d, a) || points.onSegment(c, d, b)) {
                return 2;
            }
            return sideOfC * sideOfD < 0 && sideOfA * sideOfB < 0 ? 1 : 0;
        }

        // In one line the order by X, then Y, is the order along it, upright lines too.
        private int overlap(int a, int b, int c, int d) {
            int begin = later(earlier(a, b), earlier(c, d));
            int end = earlier(later(a, b), later(c, d));
            int order = points.compare(begin, end);
            if (order == 0) {
                return 2;
            }
            return order < 0 ? 3 : 0;
        }

        private int earlier(int a, int b) {
            return points.compare(a, b) <= 0 ? a : b;
        }

        private int later(int a, int b) {
            return points.compare(a, b) <= 0 ? b : a;
        }

        int separation(int a, int b, int c, int d) {
            if (anyEqual(a, b, c, d)) {
                return NOT;
            }
            int sideOfC = points.turn(a, b, c), sideOfD = points.turn(a, b, d);
            if (sideOfC == 0 && sideOfD == 0) {
                return points.onSegment(a, b, c) != points.onSegment(a, b, d) ? 1 : 0;
            }
            // Three in line are on no circle, though RING, a product with TURN, would be 0.
            if (sideOfC == 0 || points.ring(a, b, c, d) != 0) {
                return NOT;
            }
            return sideOfC != sideOfD ? 1 : 0;
        }

        private boolean anyEqual(int a, int b, int c, int d) {
            return points.equal(a, b) || points.equal(a, c) || points.equal(a, d)
                    || points.equal(b, c) || points.equal(b, d) || points.equal(c, d);
        }
    }

    /** The row: what it answers of its first n places wants fault(n, ..) to be FINE first. */
    private static final class Row {
        private final Points points;
        final int[] places = new int[MOST_PLACES];
        int held = 0;

        Row(Points points) {
            this.points = points;
        }

        int resize(int n) {
            int before = held;
            for (int i = 0; i < MOST_PLACES; i++) {
                places[i] = NONE;
            }
            held = n;
            return before;
        }

        boolean hasPlace(int i) {
            return i >= 0 && i < held;
        }

        int put(int i, int point) {
            int before = places[i];
            places[i] = point;
            return before;
        }

        int fault(int n, int least) {
            if (n < least || n > held) {
                return BAD;
            }
            for (int i = 0; i < n; i++) {
                if (places[i] == NONE) {
                    return NOT;
                }
            }
            return FINE;
        }

        private int endOf(int edge, int n) {
            return edge + 1 < n ? places[edge + 1] : places[0];
        }

        int convexity(int n) {
            int common = sideOfOther(0, 2, n);
            for (int edge = 0; edge < n; edge++) {
                // Steps 0 and 1 come to the edge's own two places.
                for (int step = 2; step < n; step++) {
                    if (sideOfOther(edge, step, n) != common) {
                        return 0;
                    }
                }
            }
            return common;
        }

        private int sideOfOther(int edge, int step, int n) {
            int other = edge + step < n ? edge + step : edge + step - n;
            return points.turn(places[edge], endOf(edge, n), places[other]);
        }

        boolean anyEdgeHolds(int n, int p) {
            for (int edge = 0; edge < n; edge++) {
                if (points.onSegment(places[edge], endOf(edge, n), p)) {
                    return true;
                }
            }
            return false;
        }

        int risesAt(int n, int p) {
            int rises = 0;
            for (int edge = 0; edge < n; edge++) {
                if (climbsBeside(places[edge], endOf(edge, n), p)) {
                    rises++;
                }
            }
            return rises;
        }

        // An edge falls at p just where it rises, if gone from its end to its beginning.
        int fallsAt(int n, int p) {
            int falls = 0;
            for (int edge = 0; edge < n; edge++) {
                if (climbsBeside(endOf(edge, n), places[edge], p)) {
                    falls++;
                }
            }
            return falls;
        }

        private boolean climbsBeside(int from, int to, int p) {
            int height = points.ys[p];
            return points.ys[from] <= height && points.ys[to] > height && points.turn(from, to, p) == 1;
        }

        int nearestBits(int a, int n) {
            long least = points.distance(a, places[0]);
            int bits = 0;
            for (int i = 0; i < n; i++) {
                long distance = points.distance(a, places[i]);
                if (distance < least) {
                    least = distance;
                    bits = 0;
                }
                if (distance == least) {
                    bits |= 1 << i;
                }
            }
            return bits;
        }

        int placeRound(int c, int n, int i) {
            for (int place = 0; place < n; place++) {
                if (aheadRound(c, n, place) == i) {
                    return place;
                }
            }
            return BAD;
        }

        // No two places are alike in the order, so just one has i others ahead of it.
        private int aheadRound(int c, int n, int place) {
            int ahead = 0;
            for (int other = 0; other < n; other++) {
                if (compareRound(c, other, place) < 0) {
                    ahead++;
                }
            }
            return ahead;
        }

        private int compareRound(int c, int place, int other) {
            int p = places[place], q = places[other];
            int part = partOfTurn(c, p), otherPart = partOfTurn(c, q);
            if (part != otherPart) {
                return Integer.compare(part, otherPart);
            }
            int turn = points.turn(c, p, q);
            if (turn != 0) {
                return -turn;
            }
            int byDistance = Long.compare(points.distance(c, p), points.distance(c, q));
            return byDistance != 0 ? byDistance : Integer.compare(place, other);
        }

        // TURN orders directions only within less than a whole round: hence the two halves.
        private int partOfTurn(int c, int p) {
            int x = points.xs[p] - points.xs[c], y = points.ys[p] - points.ys[c];
            if (x == 0 && y == 0) {
                return 0;
            }
            return y > 0 || y == 0 && x > 0 ? 1 : 2;
        }

        int placeAlong(int n, int i) {
            for (int place = 0; place < n; place++) {
                if (aheadAlong(n, place) == i) {
                    return place;
                }
            }
            return BAD;
        }

        private int aheadAlong(int n, int place) {
            int ahead = 0;
            for (int other = 0; other < n; other++) {
                if (compareAlong(other, place) < 0) {
                    ahead++;
                }
            }
            return ahead;
        }

        private int compareAlong(int place, int other) {
            int byPoint = points.compare(places[place], places[other]);
            return byPoint != 0 ? byPoint : Integer.compare(place, other);
        }

        long crossSum(int n) {
            long sum = 0;
            for (int edge = 0; edge < n; edge++) {
                int begin = places[edge], end = endOf(edge, n);
                sum += (long) points.xs[begin] * points.ys[end] - (long) points.xs[end] * points.ys[begin];
            }
            return sum;
        }
    }

    /** The lines, each as the points (x, y) with p x + q y = r; survey(n) must come ahead of what it tells. */
    private static final class LineSet {
        private final Points points;
        private final long[] p = new long[MOST_LINES];
        private final long[] q = new long[MOST_LINES];
        private final long[] r = new long[MOST_LINES];
        int held = 0;
        private final int[] kept = new int[MOST_LINES];
        int different = 0;
        int meets = 0;
        int mostThrough = 0;
        private int allThrough = 0;

        LineSet(Points points) {
            this.points = points;
        }

        int add(int a, int b) {
            if (held >= MOST_LINES) {
                return FULL;
            }
            p[held] = points.ys[b] - points.ys[a];
            q[held] = points.xs[a] - points.xs[b];
            r[held] = p[held] * points.xs[a] + q[held] * points.ys[a];
            held++;
            return held - 1;
        }

        void survey(int n) {
            keepDifferent(n);
            meets = 0;
            mostThrough = 0;
            allThrough = 0;
            for (int i = 0; i < different; i++) {
                for (int j = i + 1; j < different; j++) {
                    int through = throughMeet(i, j);
                    if (through > 0) {
                        meets++;
                        allThrough += through;
                        mostThrough = Math.max(mostThrough, through);
                    }
                }
            }
        }

        int cells() {
            return 1 + different + allThrough - meets;
        }

        int pieces() {
            return different + allThrough;
        }

        // Far away, lines that meet at all part the plane into two cells for each of them; lines
        // that never meet leave no closed cell.
        int closedCells() {
            return meets == 0 ? 0 : cells() - 2 * different;
        }

        private void keepDifferent(int n) {
            different = 0;
            for (int i = 0; i < n; i++) {
                if (isNew(i)) {
                    kept[different] = i;
                    different++;
                }
            }
        }

        private boolean isNew(int line) {
            for (int i = 0; i < different; i++) {
                if (same(kept[i], line)) {
                    return false;
                }
            }
            return true;
        }

        private boolean same(int i, int j) {
            return slant(i, j) == 0 && p[i] * r[j] == p[j] * r[i] && q[i] * r[j] == q[j] * r[i];
        }

        private long slant(int i, int j) {
            return p[i] * q[j] - p[j] * q[i];
        }

        // A meet is counted once, at the first two lines through it: at others the answer is 0.
        private int throughMeet(int first, int second) {
            if (slant(kept[first], kept[second]) == 0) {
                return 0;
            }
            int through = 2;
            for (int i = 0; i < different; i++) {
                if (i != first && i != second && concurrent(kept[first], kept[second], kept[i])) {
                    if (i < second) {
                        return 0;
                    }
                    through++;
                }
            }
            return through;
        }

        // Each product stays below 2 to the 59, the sum below 2 to the 61: a long holds it.
        private boolean concurrent(int i, int j, int k) {
            long meetX = r[i] * q[j] - r[j] * q[i];
            long meetY = p[i] * r[j] - p[j] * r[i];
            return p[k] * meetX + q[k] * meetY == r[k] * slant(i, j);
        }
    }
}
