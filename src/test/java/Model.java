import java.math.BigInteger;
import java.util.ArrayList;
import java.util.Arrays;
import java.util.HashMap;
import java.util.HashSet;
import java.util.LinkedHashSet;
import java.util.List;
import java.util.Map;
import java.util.Set;

/**
 * What the document asks for, reckoned by other ways than the class goes: big numbers and
 * fractions, centres of circles, angles, sums of angles, lines laid down one after the other.
 * Where a call throws, the model answers one of the numbers THROWS_..
 */
final class Model {
    static final long THROWS_NEGATIVE = -1000001, THROWS_INDEX = -1000002, THROWS_NULL = -1000003, THROWS_ARITHMETIC = -1000004;
    private static final int NONE = -1, BAD = -2, FULL = -3, NOT = -4;
    private static final long TWELVE = 12;

    private final List<long[]> points = new ArrayList<>();
    private final List<int[]> lineEnds = new ArrayList<>();
    private int[] places = {};
    private boolean filterOn = true;
    private final int[] tallies = new int[3];

    long point(long x, long y, long down) {
        if (Math.max(x, y) > 800 || Math.min(x, y) < -800 || !Set.of(1L, 2L, 3L, 4L, 6L, 12L).contains(down)) {
            return BAD;
        }
        if (points.size() == 60) {
            return FULL;
        }
        points.add(new long[] {x * TWELVE / down, y * TWELVE / down});
        return points.size() - 1;
    }

    long size(int n) {
        if (n < 0) {
            return THROWS_NEGATIVE;
        }
        if (n > 24) {
            return BAD;
        }
        int before = places.length;
        places = new int[n];
        Arrays.fill(places, NONE);
        return before;
    }

    long of(int i, int point) {
        if (point != NONE && bad(point)) {
            return BAD;
        }
        if (i < 0 || i >= places.length) {
            return THROWS_INDEX;
        }
        int before = places[i];
        places[i] = point;
        return before;
    }

    long at(int i, int what) {
        if (i < 0 || i >= places.length) {
            return THROWS_INDEX;
        }
        if (places[i] == NONE) {
            return THROWS_NULL;
        }
        return what == 0 || what == 1 ? points.get(places[i])[what] : places[i];
    }

    long side(int a, int b, int c) {
        if (bad(a, b, c)) {
            return BAD;
        }
        if (equal(a, b)) {
            return NOT;
        }
        float left = (f(b, 0) - f(a, 0)) * (f(c, 1) - f(a, 1));
        float right = (f(b, 1) - f(a, 1)) * (f(c, 0) - f(a, 0));
        float size = reach(a, b, c);
        return tally(turn(a, b, c), left - right, size * size * 0.000003814697265625f, 1);
    }

    long circle(int a, int b, int c, int d) {
        if (bad(a, b, c, d)) {
            return BAD;
        }
        if (turn(a, b, c) == 0) {
            return NOT;
        }
        int[] three = {a, b, c};
        float[] x = new float[3], y = new float[3], s = new float[3];
        for (int i = 0; i < 3; i++) {
            x[i] = f(three[i], 0) - f(d, 0);
            y[i] = f(three[i], 1) - f(d, 1);
            s[i] = x[i] * x[i] + y[i] * y[i];
        }
        float sum = 0;
        for (int i = 0; i < 3; i++) {
            int j = (i + 1) % 3, k = (i + 2) % 3;
            sum = sum + s[i] * (x[j] * y[k] - y[j] * x[k]);
        }
        float size = reach(a, b, c, d);
        return tally(ring(a, b, c, d), sum, (size * size) * (size * size) * 0.000244140625f, turn(a, b, c));
    }

    private long tally(int exact, float reckoned, float bound, int factor) {
        boolean decides = filterOn && Math.abs(reckoned) > bound;
        if (decides && exact != factor * (int) Math.signum(reckoned)) {
            throw new IllegalStateException("the filter decides wrongly");
        }
        tallies[decides ? 0 : 1]++;
        tallies[2] += exact == 0 ? 1 : 0;
        return exact;
    }

    private float f(int p, int axis) {
        return (float) points.get(p)[axis] / 12.0f;
    }

    private float reach(int... told) {
        float most = 0;
        for (int p : told) {
            most = Math.max(most, Math.max(Math.abs(f(p, 0)), Math.abs(f(p, 1))));
        }
        return most;
    }

    long filter(boolean on) {
        boolean before = filterOn;
        filterOn = on;
        return before ? 1 : 0;
    }

    long decided(int what) {
        return what < 0 || what > 2 ? BAD : tallies[what];
    }

    long between(int a, int b, int c) {
        if (bad(a, b, c)) {
            return BAD;
        }
        return equal(a, b) || equal(b, c) ? 2 : product(b, a, b, c).signum() == 0 && dot(b, a, b, c).signum() < 0 ? 1 : 0;
    }

    long inside(int a, int b, int c, int d) {
        if (bad(a, b, c, d)) {
            return BAD;
        }
        if (equal(a, b) || equal(a, c)) {
            return NOT;
        }
        if (equal(a, d) || oneWay(a, b, d) || oneWay(a, c, d)) {
            return 2;
        }
        if (oneWay(a, b, c)) {
            return 0;
        }
        return angle(a, b, d) < angle(a, b, c) ? 1 : 0;
    }

    private boolean oneWay(int a, int b, int c) {
        return product(a, b, a, c).signum() == 0 && dot(a, b, a, c).signum() > 0;
    }

    /** From the direction of b to that of c, to the left, from 0 to a whole round. */
    private double angle(int a, int b, int c) {
        double angle = Math.atan2(product(a, b, a, c).doubleValue(), dot(a, b, a, c).doubleValue());
        return angle < 0 ? angle + 2 * Math.PI : angle;
    }

    long cross(int a, int b, int c, int d) {
        if (bad(a, b, c, d)) {
            return BAD;
        }
        if (equal(a, b) && equal(c, d)) {
            return equal(a, c) ? 2 : 0;
        }
        if (equal(a, b)) {
            return between(c, a, d) > 0 ? 2 : 0;
        }
        if (equal(c, d)) {
            return between(a, c, b) > 0 ? 2 : 0;
        }
        BigInteger whole = product(a, b, c, d);
        if (whole.signum() == 0) {
            return product(a, b, a, c).signum() != 0 ? 0 : shared(a, b, c, d);
        }
        int sign = whole.signum();
        BigInteger alongAb = product(a, c, c, d), alongCd = product(a, c, a, b);
        int from = Math.min(alongAb.signum() * sign, alongCd.signum() * sign);
        int to = Math.min(whole.subtract(alongAb).signum() * sign, whole.subtract(alongCd).signum() * sign);
        return from < 0 || to < 0 ? 0 : from == 0 || to == 0 ? 2 : 1;
    }

    private long shared(int a, int b, int c, int d) {
        BigInteger first = dot(a, b, a, c), second = dot(a, b, a, d);
        BigInteger low = first.min(second).max(BigInteger.ZERO);
        BigInteger high = first.max(second).min(dot(a, b, a, b));
        return low.compareTo(high) > 0 ? 0 : low.equals(high) ? 2 : 3;
    }

    long separated(int a, int b, int c, int d) {
        if (bad(a, b, c, d)) {
            return BAD;
        }
        Set<List<Long>> apart = new HashSet<>();
        for (int p : new int[] {a, b, c, d}) {
            apart.add(List.of(points.get(p)[0], points.get(p)[1]));
        }
        if (apart.size() < 4) {
            return NOT;
        }
        if (turn(a, b, c) == 0) {
            return turn(a, b, d) != 0 ? NOT : between(a, c, b) != between(a, d, b) ? 1 : 0;
        }
        if (ring(a, b, c, d) != 0) {
            return NOT;
        }
        double[] centre = centre(a, b, c);
        double toB = roundCentre(centre, a, b), toC = roundCentre(centre, a, c), toD = roundCentre(centre, a, d);
        return (toC < toB) != (toD < toB) ? 1 : 0;
    }

    private double[] centre(int a, int b, int c) {
        BigInteger[] u = centreTimes(a, b, c);
        double by = u[2].doubleValue();
        return new double[] {points.get(a)[0] + u[0].doubleValue() / by, points.get(a)[1] + u[1].doubleValue() / by};
    }

    private double roundCentre(double[] centre, int a, int p) {
        double from = Math.atan2(points.get(a)[1] - centre[1], points.get(a)[0] - centre[0]);
        double to = Math.atan2(points.get(p)[1] - centre[1], points.get(p)[0] - centre[0]);
        return to < from ? to - from + 2 * Math.PI : to - from;
    }

    /** The centre of the circle through a, b, c, seen from a: two numbers and what to divide them by. */
    private BigInteger[] centreTimes(int a, int b, int c) {
        BigInteger b2 = dot(a, b, a, b), c2 = dot(a, c, a, c);
        BigInteger x = minus(c, a, 1).multiply(b2).subtract(minus(b, a, 1).multiply(c2));
        BigInteger y = minus(b, a, 0).multiply(c2).subtract(minus(c, a, 0).multiply(b2));
        return new BigInteger[] {x, y, product(a, b, a, c).shiftLeft(1)};
    }

    /** Whether d is nearer to the centre than a is. */
    private int ring(int a, int b, int c, int d) {
        BigInteger[] u = centreTimes(a, b, c);
        BigInteger twice = minus(d, a, 0).multiply(u[0]).add(minus(d, a, 1).multiply(u[1])).shiftLeft(1);
        return twice.subtract(dot(a, d, a, d).multiply(u[2])).signum() * u[2].signum();
    }

    long convex(int n) {
        if (n < 3 || n > places.length) {
            return BAD;
        }
        if (gap(n)) {
            return NOT;
        }
        Set<Integer> sides = new HashSet<>();
        for (int i = 0; i < n; i++) {
            for (int j = 0; j < n; j++) {
                if (j != i && j != (i + 1) % n) {
                    sides.add(turn(places[i], places[(i + 1) % n], places[j]));
                }
            }
        }
        return sides.size() == 1 ? sides.iterator().next() : 0;
    }

    long polygon(int n, int p) {
        if (badRow(n) || bad(p)) {
            return BAD;
        }
        if (gap(n)) {
            return NOT;
        }
        long rounds = winding(n, p);
        return rounds == 100 ? 2 : Math.abs(rounds) % 2;
    }

    long winding(int n, int p) {
        if (badRow(n) || bad(p) || gap(n)) {
            return -100;
        }
        double sum = 0;
        for (int i = 0; i < n; i++) {
            int from = places[i], to = places[(i + 1) % n];
            if (between(from, p, to) > 0) {
                return 100;
            }
            sum += Math.atan2(product(p, from, p, to).doubleValue(), dot(p, from, p, to).doubleValue());
        }
        return Math.round(sum / (2 * Math.PI));
    }

    long nearest(int a, int n) {
        if (badRow(n) || bad(a)) {
            return BAD;
        }
        if (gap(n)) {
            return NOT;
        }
        BigInteger least = null;
        for (int i = 0; i < n; i++) {
            BigInteger far = dot(a, places[i], a, places[i]);
            least = least == null ? far : least.min(far);
        }
        int bits = 0;
        for (int i = 0; i < n; i++) {
            bits |= dot(a, places[i], a, places[i]).equals(least) ? 1 << i : 0;
        }
        return bits;
    }

    long around(int c, int n, int i) {
        if (badRow(n) || bad(c) || i < 0 || i >= n) {
            return BAD;
        }
        if (gap(n)) {
            return NOT;
        }
        List<Integer> sorted = firstPlaces(n);
        sorted.sort((v, w) -> compareRound(c, places[v], places[w]));
        return sorted.get(i);
    }

    private int compareRound(int c, int p, int q) {
        if (equal(c, p) || equal(c, q)) {
            return Boolean.compare(equal(c, q), equal(c, p));
        }
        if (oneWay(c, p, q)) {
            return dot(c, p, c, p).compareTo(dot(c, q, c, q));
        }
        return Double.compare(fromEast(c, p), fromEast(c, q));
    }

    private double fromEast(int c, int p) {
        double angle = Math.atan2(minus(p, c, 1).doubleValue(), minus(p, c, 0).doubleValue());
        return angle < 0 ? angle + 2 * Math.PI : angle;
    }

    long order(int n, int i) {
        if (badRow(n) || i < 0 || i >= n) {
            return BAD;
        }
        if (gap(n)) {
            return NOT;
        }
        List<Integer> sorted = firstPlaces(n);
        sorted.sort((v, w) -> Arrays.compare(points.get(places[v]), points.get(places[w])));
        return sorted.get(i);
    }

    private static List<Integer> firstPlaces(int n) {
        List<Integer> all = new ArrayList<>();
        for (int i = 0; i < n; i++) {
            all.add(i);
        }
        return all;
    }

    long area(int n, long by) {
        if (badRow(n) || gap(n)) {
            return 0;
        }
        if (by == 0) {
            return THROWS_ARITHMETIC;
        }
        // Fans of triangles at the first place sum up to the same.
        BigInteger sum = BigInteger.ZERO;
        for (int i = 1; i + 1 < n; i++) {
            sum = sum.add(product(places[0], places[i], places[0], places[i + 1]));
        }
        return sum.divide(BigInteger.valueOf(by)).longValueExact();
    }

    long line(int a, int b) {
        if (bad(a, b)) {
            return BAD;
        }
        if (equal(a, b)) {
            return NOT;
        }
        if (lineEnds.size() == 12) {
            return FULL;
        }
        lineEnds.add(new int[] {a, b});
        return lineEnds.size() - 1;
    }

    long lines(int n, int what) {
        if (n < 0 || n > lineEnds.size() || what < 0 || what > 5) {
            return BAD;
        }
        Set<List<BigInteger>> different = new LinkedHashSet<>();
        for (int[] ends : lineEnds.subList(0, n)) {
            different.add(lowest(coefficients(ends[0], ends[1])));
        }
        Map<List<BigInteger>, Set<List<BigInteger>>> meets = new HashMap<>();
        List<List<BigInteger>> laid = new ArrayList<>();
        long cells = 1;
        for (List<BigInteger> line : different) {
            Set<List<BigInteger>> onIt = new HashSet<>();
            for (List<BigInteger> earlier : laid) {
                List<BigInteger> meet = meet(line, earlier);
                if (meet.get(2).signum() != 0) {
                    onIt.add(meet);
                    meets.computeIfAbsent(meet, m -> new HashSet<>()).addAll(List.of(line, earlier));
                }
            }
            cells += 1 + onIt.size();
            laid.add(line);
        }
        return toldOfLines(what, laid, meets, cells);
    }

    private static long toldOfLines(int what, List<List<BigInteger>> laid,
            Map<List<BigInteger>, Set<List<BigInteger>>> meets, long cells) {
        long pieces = 0, closedPieces = 0, most = 0;
        for (List<BigInteger> line : laid) {
            long onIt = meets.values().stream().filter(through -> through.contains(line)).count();
            pieces += onIt + 1;
            closedPieces += Math.max(0, onIt - 1);
        }
        for (Set<List<BigInteger>> through : meets.values()) {
            most = Math.max(most, through.size());
        }
        // Euler: closed cells are edges less corners and 1, the net of the meets being of one part.
        long closed = meets.isEmpty() ? 0 : closedPieces - meets.size() + 1;
        return new long[] {laid.size(), meets.size(), cells, pieces, closed, most}[what];
    }

    private List<BigInteger> coefficients(int a, int b) {
        BigInteger p = minus(b, a, 1), q = minus(a, b, 0);
        BigInteger r = p.multiply(big(a, 0)).add(q.multiply(big(a, 1)));
        return List.of(p, q, r);
    }

    /** Where two lines meet, as x, y and what to divide them by, in lowest terms; the last is 0 if they don't. */
    private static List<BigInteger> meet(List<BigInteger> i, List<BigInteger> j) {
        BigInteger by = det(i.get(0), i.get(1), j.get(0), j.get(1));
        BigInteger x = det(i.get(2), i.get(1), j.get(2), j.get(1));
        BigInteger y = det(i.get(0), i.get(2), j.get(0), j.get(2));
        if (by.signum() == 0) {
            return List.of(x, y, by);
        }
        BigInteger common = x.gcd(y).gcd(by).multiply(BigInteger.valueOf(by.signum()));
        return List.of(x.divide(common), y.divide(common), by.divide(common));
    }

    private static List<BigInteger> lowest(List<BigInteger> v) {
        BigInteger common = v.get(0).gcd(v.get(1)).gcd(v.get(2));
        int sign = v.get(0).signum() != 0 ? v.get(0).signum() : v.get(1).signum();
        BigInteger by = common.multiply(BigInteger.valueOf(sign));
        return List.of(v.get(0).divide(by), v.get(1).divide(by), v.get(2).divide(by));
    }

    private static BigInteger det(BigInteger a, BigInteger b, BigInteger c, BigInteger d) {
        return a.multiply(d).subtract(b.multiply(c));
    }

    long count(int what) {
        return what == 0 ? points.size() : what == 1 ? places.length : what == 2 ? lineEnds.size() : what == 3 ? filterOn ? 1 : 0 : BAD;
    }

    private boolean bad(int... told) {
        for (int p : told) {
            if (p < 0 || p >= points.size()) {
                return true;
            }
        }
        return false;
    }

    private boolean badRow(int n) {
        return n < 1 || n > places.length;
    }

    private boolean gap(int n) {
        return Arrays.stream(places).limit(n).anyMatch(p -> p == NONE);
    }

    private boolean equal(int a, int b) {
        return Arrays.equals(points.get(a), points.get(b));
    }

    private int turn(int a, int b, int c) {
        return product(a, b, a, c).signum();
    }

    private BigInteger big(int p, int axis) {
        return BigInteger.valueOf(points.get(p)[axis]);
    }

    private BigInteger minus(int p, int q, int axis) {
        return big(p, axis).subtract(big(q, axis));
    }

    /** Of the way from a to b with that from c to d. */
    private BigInteger product(int a, int b, int c, int d) {
        return det(minus(b, a, 0), minus(b, a, 1), minus(d, c, 0), minus(d, c, 1));
    }

    private BigInteger dot(int a, int b, int c, int d) {
        return minus(b, a, 0).multiply(minus(d, c, 0)).add(minus(b, a, 1).multiply(minus(d, c, 1)));
    }
}
