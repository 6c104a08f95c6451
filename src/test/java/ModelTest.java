import java.util.Arrays;
import java.util.Random;

/** All promises at once: long runs of calls, fair and foul, each answer held against the Model's. */
public final class ModelTest {
    private static final int RUNS = 1500;
    private static final int CALLS = 512;
    private static final int[] DOWNS = {1, 2, 3, 4, 6, 12};
    private static final int[][] ROUND = {{5, 0}, {3, 4}, {4, 3}, {0, 5}, {-3, 4}, {-4, 3}, {-5, 0}, {-3, -4}, {-4, -3}, {0, -5}, {3, -4}, {4, -3}};
    private static final int[] FOUL = {-1, -2, -3, 60, 61, 24, 25, 12, 13, Integer.MIN_VALUE, Integer.MAX_VALUE, 1 << 30, 256};

    private final Random random;
    private final OrderJudge judge = new OrderJudge();
    private final Model model = new Model();
    private final int kind;
    private final int fill;
    private int toFill = 0;
    private String call = "";

    private ModelTest(int run) {
        random = new Random(77L * run + 5);
        kind = run % 7;
        fill = random.nextInt(6);
    }

    public static void main(String[] args) {
        Due due = new Due();
        for (int run = 0; run < RUNS; run++) {
            new ModelTest(run).play(due, run);
        }
        due.end();
    }

    // After the points come fillings of the row, each put in whole, for the calls between them.
    private void play(Due due, int run) {
        int points = 4 + random.nextInt(random.nextInt(10) == 0 ? 60 : 16);
        for (int i = 0; i < CALLS; i++) {
            if (i < points) {
                ask(due, run, 0, newPoint());
            } else if (toFill > 0) {
                toFill--;
                ask(due, run, 2, new long[] {toFill, random.nextInt(200) == 0 ? -1 : aPoint()});
            } else if (random.nextInt(60) == 0 || i == points) {
                ask(due, run, 1, new long[] {random.nextInt(5) == 0 ? foul() : 3 + random.nextInt(22)});
                toFill = (int) model.count(1);
            } else {
                int what = random.nextInt(23);
                ask(due, run, what, arguments(what));
            }
        }
    }

    private void ask(Due due, int run, int what, long[] v) {
        long want = ofModel(what, v);
        long got = ofJudge(what, v);
        due.is("run " + run + ": " + call + Arrays.toString(v), got, want);
    }

    private long[] arguments(int what) {
        switch (what) {
            case 0: return newPoint();
            case 1: return new long[] {foul() < 0 ? -1 : 25};
            case 2: return new long[] {random.nextInt(3) == 0 ? any(24) : any((int) model.count(1)), random.nextInt(60) == 0 ? -1 : aPoint()};
            case 3: return new long[] {any((int) model.count(1)), any(3)};
            case 4: case 8: return new long[] {aPoint(), aPoint(), aPoint()};
            case 6: return new long[] {random.nextInt(3)};
            case 7: case 22: return new long[] {any(4)};
            case 12: return new long[] {firstN()};
            case 13: case 14: return new long[] {firstN(), aPoint()};
            case 15: return new long[] {aPoint(), firstN()};
            case 16: return new long[] {aPoint(), firstN(), any(10)};
            case 17: return new long[] {firstN(), any(10)};
            case 18: return new long[] {firstN(), aDivisor()};
            case 19: return new long[] {aPoint(), aPoint()};
            case 20: case 21: return new long[] {any(1 + (int) model.count(2)), any(6)};
            default: return new long[] {aPoint(), aPoint(), aPoint(), aPoint()};
        }
    }

    // Kinds of runs: a small grid, a circle of whole points, far points, near a line, on a line, fractions, some of all.
    private long[] newPoint() {
        if (random.nextInt(15) == 0) {
            long[] v = {random.nextInt(2000) - 1000, random.nextInt(2000) - 1000, random.nextInt(15) - 1};
            if (random.nextInt(4) == 0) {
                v[random.nextInt(3)] = random.nextBoolean() ? random.nextLong() : 4294967296L + 1;
            }
            return v;
        }
        int chosen = kind == 6 ? random.nextInt(6) : kind;
        long down = DOWNS[random.nextInt(6)];
        if (chosen == 0) {
            return new long[] {random.nextInt(5) - 2, random.nextInt(5) - 2, 1};
        }
        if (chosen == 1) {
            int[] p = ROUND[random.nextInt(12)];
            long times = DOWNS[random.nextInt(3)];
            return new long[] {p[0] * times, p[1] * times, times};
        }
        if (chosen == 2) {
            return new long[] {random.nextInt(1601) - 800, random.nextInt(1601) - 800, random.nextInt(3) == 0 ? down : 1};
        }
        if (chosen == 3) {
            int x = random.nextInt(1601) - 800;
            return new long[] {x, Math.max(-800, Math.min(800, Math.round(x * 0.377f) + random.nextInt(3) - 1)), 1};
        }
        if (chosen == 4) {
            int step = random.nextInt(41) - 20;
            return new long[] {3 * step + 1, 2 * step, random.nextInt(10) == 0 ? down : 1};
        }
        return new long[] {random.nextInt(13) - 6, random.nextInt(13) - 6, down};
    }

    private int aPoint() {
        return random.nextInt(40) == 0 ? foul() : random.nextInt(Math.max(1, (int) model.count(0)));
    }

    private int any(int below) {
        return random.nextInt(20) == 0 ? foul() : random.nextInt(Math.max(1, below));
    }

    private int firstN() {
        return random.nextInt(20) == 0 ? foul() : random.nextInt(2 + Math.min((int) model.count(1), 3 + 5 * fill));
    }

    private long aDivisor() {
        int which = random.nextInt(6);
        return which == 0 ? 0 : which == 1 ? random.nextLong() : which == 2 ? -1 : random.nextInt(2001) - 1000;
    }

    private int foul() {
        return FOUL[random.nextInt(FOUL.length)];
    }

    private long ofModel(int what, long[] v) {
        int a = (int) v[0], b = v.length > 1 ? (int) v[1] : 0, c = v.length > 2 ? (int) v[2] : 0, d = v.length > 3 ? (int) v[3] : 0;
        switch (what) {
            case 0: return model.point(v[0], v[1], v[2]);
            case 1: return model.size(a);
            case 2: return model.of(a, b);
            case 3: return model.at(a, b);
            case 4: return model.side(a, b, c);
            case 5: return model.circle(a, b, c, d);
            case 6: return model.filter(a > 0);
            case 7: return model.decided(a);
            case 8: return model.between(a, b, c);
            case 9: return model.inside(a, b, c, d);
            case 10: return model.cross(a, b, c, d);
            case 11: return model.separated(a, b, c, d);
            case 12: return model.convex(a);
            case 13: return model.polygon(a, b);
            case 14: return model.winding(a, b);
            case 15: return model.nearest(a, b);
            case 16: return model.around(a, b, c);
            case 17: return model.order(a, b);
            case 18: return model.area(a, v[1]);
            case 19: return model.line(a, b);
            case 20: case 21: return model.lines(a, b);
            default: return model.count(a);
        }
    }

    private long ofJudge(int what, long[] v) {
        try {
            return asked(what, v);
        } catch (NegativeArraySizeException e) {
            return Model.THROWS_NEGATIVE;
        } catch (ArrayIndexOutOfBoundsException e) {
            return Model.THROWS_INDEX;
        } catch (NullPointerException e) {
            return Model.THROWS_NULL;
        } catch (ArithmeticException e) {
            return Model.THROWS_ARITHMETIC;
        }
    }

    private long asked(int what, long[] v) {
        int a = (int) v[0], b = v.length > 1 ? (int) v[1] : 0, c = v.length > 2 ? (int) v[2] : 0, d = v.length > 3 ? (int) v[3] : 0;
        switch (what) {
            case 0: call = "point"; return judge.point(v[0], v[1], v[2]);
            case 1: call = "size"; return judge.size(a);
            case 2: call = "of"; return judge.of(a, b);
            case 3: call = "at"; return judge.at(a, b);
            case 4: call = "side"; return judge.side(a, b, c);
            case 5: call = "circle"; return judge.circle(a, b, c, d);
            case 6: call = "filter"; return judge.filter(a > 0);
            case 7: call = "decided"; return judge.decided(a);
            case 8: call = "between"; return judge.between(a, b, c);
            case 9: call = "inside"; return judge.inside(a, b, c, d);
            case 10: call = "cross"; return judge.cross(a, b, c, d);
            case 11: call = "separated"; return judge.separated(a, b, c, d);
            case 12: call = "convex"; return judge.convex(a);
            case 13: call = "polygon"; return judge.polygon(a, b);
            case 14: call = "winding"; return judge.winding(a, b);
            case 15: call = "nearest"; return judge.nearest(a, b);
            case 16: call = "around"; return judge.around(a, b, c);
            case 17: call = "order"; return judge.order(a, b);
            case 18: call = "area"; return judge.area(a, v[1]);
            case 19: call = "line"; return judge.line(a, b);
            case 20: case 21: call = "lines"; return judge.lines(a, b);
            default: call = "count"; return judge.count(a);
        }
    }
}
