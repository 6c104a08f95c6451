/** Promises 6 (side), 7 (circle), 8 (filter) and 9 (decided). */
public final class SignsTest {
    private static final int[] NO_POINTS = {-1, 5, 60, Integer.MIN_VALUE, Integer.MAX_VALUE};

    public static void main(String[] args) {
        Due due = new Due();
        sides(due);
        circles(due);
        filterSwitch(due);
        tallies(due);
        turnBound(due);
        ringBound(due);
        eachMakesTheSize(due);
        sizeIsOfThePointsTold(due);
        floatsAreRounded(due);
        hairsFromTheBound(due);
        orderOfTurn(due);
        dividedByTwelve(due);
        orderOfRing(due);
        orderOfTheBound(due);
        turnBoundIsRounded(due);
        due.end();
    }

    private static void sides(Due due) {
        OrderJudge x = Due.withPoints(3, 0, 0, 800, 799, -800, -799, 800, 799, 799, 798);
        due.is("to the right by a hair", x.side(0, 1, 4), -1);
        due.is("to the left by a hair", x.side(1, 0, 4), 1);
        due.is("in line", x.side(1, 2, 0), 0);
        due.is("in line, c is a", x.side(1, 2, 1), 0);
        due.is("in line, c is EQUAL to b", x.side(0, 1, 3), 0);
        due.is("a is b", x.side(1, 1, 2), -4);
        due.is("a and b EQUAL", x.side(1, 3, 2), -4);
        for (int p : NO_POINTS) {
            due.is("side(" + p + ", 0, 1)", x.side(p, 0, 1), -2);
            due.is("side(0, " + p + ", 1)", x.side(0, p, 1), -2);
            due.is("side(0, 0, " + p + "): BAD ahead of NOT", x.side(0, 0, p), -2);
        }
        OrderJudge far = Due.withPoints(1, -800, -800, 800, 800, -800, 800, 800, -800);
        due.is("far to the left", far.side(0, 1, 2), 1);
        due.is("far to the right", far.side(0, 1, 3), -1);
    }

    private static void circles(Due due) {
        OrderJudge x = Due.withPoints(1, 5, 0, 0, 5, -5, 0, 3, -4, 0, 0);
        due.is("on it", x.circle(0, 1, 2, 3), 0);
        due.is("within", x.circle(0, 1, 2, 4), 1);
        due.is("within, gone round to the right", x.circle(2, 1, 0, 4), 1);
        due.is("d is a", x.circle(0, 1, 2, 0), 0);
        due.is("a, b, c in line", x.circle(0, 4, 2, 1), -4);
        due.is("a, b EQUAL", x.circle(0, 0, 1, 2), -4);
        due.is("b, c EQUAL", x.circle(0, 1, 1, 2), -4);
        for (int p : NO_POINTS) {
            due.is("circle(" + p + ", 0, 1, 2)", x.circle(p, 0, 1, 2), -2);
            due.is("circle(0, " + p + ", 1, 2)", x.circle(0, p, 1, 2), -2);
            due.is("circle(0, 1, " + p + ", 2)", x.circle(0, 1, p, 2), -2);
            due.is("circle(0, 0, 0, " + p + "): BAD ahead of NOT", x.circle(0, 0, 0, p), -2);
        }
        OrderJudge far = Due.withPoints(1, 800, 800, -800, 800, -800, -800, 800, -800, 800, -799);
        due.is("the greatest square", far.circle(0, 1, 2, 3), 0);
        due.is("just within", far.circle(0, 1, 2, 4), 1);
        due.is("just outside", far.circle(0, 1, 4, 3), -1);
        due.is("just outside, to the right", far.circle(1, 0, 4, 3), -1);
    }

    private static void filterSwitch(Due due) {
        OrderJudge x = new OrderJudge();
        due.is("filter(true)", x.filter(true), 1);
        due.is("filter(false)", x.filter(false), 1);
        due.is("filter(false), again", x.filter(false), 0);
        due.is("filter(true), off before", x.filter(true), 0);
        due.is("filter(true), on before", x.filter(true), 1);
    }

    private static void tallies(Due due) {
        OrderJudge x = Due.withPoints(1, 5, 0, 0, 5, -5, 0, 0, -5, 0, 0);
        x.side(0, 1, 2);
        due.is("a clear side", x.decided(0), 1);
        x.circle(0, 1, 2, 4);
        due.is("a clear circle", x.decided(0), 2);
        x.side(0, 2, 4);
        x.circle(0, 1, 2, 3);
        due.is("0 is never decided", x.decided(0), 2);
        due.is("so it did not", x.decided(1), 2);
        due.is("told 0", x.decided(2), 2);
        x.side(0, 0, 1);
        x.side(9, 0, 1);
        x.circle(0, 2, 4, 1);
        x.circle(0, 1, 2, 9);
        x.between(0, 4, 2);
        x.inside(4, 0, 1, 2);
        x.cross(0, 2, 1, 3);
        x.separated(0, 1, 2, 3);
        tally(due, "what is refused, and other calls, count for nothing", x, 2, 2, 2);
        x.filter(false);
        x.side(0, 1, 2);
        x.circle(0, 1, 2, 4);
        tally(due, "none is decided while it is off", x, 2, 4, 2);
        x.side(0, 2, 4);
        tally(due, "told 0 while it is off", x, 2, 5, 3);
        x.filter(true);
        x.side(0, 1, 2);
        tally(due, "on again", x, 3, 5, 3);
        int[] bad = {-1, 3, Integer.MIN_VALUE, Integer.MAX_VALUE};
        for (int what : bad) {
            due.is("decided(" + what + ")", x.decided(what), -2);
        }
    }

    private static void tally(Due due, String call, OrderJudge x, int clear, int unclear, int zeros) {
        due.is(call + ": decided(0)", x.decided(0), clear);
        due.is(call + ": decided(1)", x.decided(1), unclear);
        due.is(call + ": decided(2)", x.decided(2), zeros);
    }

    // SIZE is 512, so that the bound of TURN is 1 itself.
    private static void turnBound(Due due) {
        OrderJudge x = Due.withPoints(1, 0, 0, 512, 511, 1, 1, 512, 510, -1, -1);
        due.is("at the bound", x.side(0, 1, 2), 1);
        tally(due, "what is just the bound is not more", x, 0, 1, 0);
        due.is("at the bound, to the right", x.side(0, 1, 4), -1);
        tally(due, "nor is it without sign", x, 0, 2, 0);
        due.is("above the bound", x.side(0, 3, 2), 1);
        tally(due, "2 is more", x, 1, 2, 0);
        due.is("above the bound, to the right", x.side(0, 3, 4), -1);
        tally(due, "2 is more, without sign", x, 2, 2, 0);
        OrderJudge upright = Due.withPoints(1, 0, 0, -511, -512, 1, 1, -510, -512);
        due.is("SIZE by Y, without sign", upright.side(0, 1, 2), 1);
        tally(due, "SIZE is of Y too", upright, 0, 1, 0);
        due.is("SIZE by Y, above", upright.side(0, 3, 2), 1);
        tally(due, "SIZE is of Y too", upright, 1, 1, 0);
        OrderJudge origin = Due.withPoints(12, 0, 0, 1, 0, 0, 1, 1, 1);
        due.is("the least points", origin.side(0, 1, 2), 1);
        due.is("the least circle", origin.circle(0, 1, 2, 3), 0);
        tally(due, "small points are as clear as great ones", origin, 1, 1, 1);
    }

    // SIZE is 16, so that the bound of RING is 16 itself.
    private static void ringBound(Due due) {
        OrderJudge x = Due.withPoints(1, -7, -15, -6, -15, 5, -11, 7, 16);
        due.is("at the bound, d alone makes SIZE", x.circle(0, 1, 2, 3), 1);
        tally(due, "what is just the bound is not more", x, 0, 1, 0);
        OrderJudge y = Due.withPoints(1, -9, -16, -8, -11, 2, 12, -4, 1);
        due.is("at the bound, a makes SIZE", y.circle(0, 1, 2, 3), -1);
        tally(due, "nor here", y, 0, 1, 0);
        OrderJudge z = Due.withPoints(1, -5, -10, 5, -13, -6, 16, 4, -13);
        due.is("18", z.circle(0, 1, 2, 3), 1);
        tally(due, "18 is more", z, 1, 0, 0);
        OrderJudge w = Due.withPoints(1, 14, 13, 12, -7, 15, -16, 13, -11);
        due.is("-18", w.circle(0, 1, 2, 3), -1);
        tally(due, "18 without sign is more", w, 1, 0, 0);
    }

    // Each of the points told can make SIZE: with it the bound is above what is clear without it.
    private static void eachMakesTheSize(Due due) {
        int[] at = {0, 0, 1, 1, 512, 511};
        for (int turn = 0; turn < 3; turn++) {
            int a = turn, b = (turn + 1) % 3, c = (turn + 2) % 3;
            OrderJudge x = Due.withPoints(1, at);
            due.is("side, SIZE by another one", x.side(a, b, c), -1);
            tally(due, "SIZE by point " + turn, x, 0, 1, 0);
        }
        int[] ring = {-7, -15, -6, -15, 5, -11, 7, 16};
        int[] signs = {1, -1, 1, -1};
        for (int turn = 0; turn < 4; turn++) {
            OrderJudge x = Due.withPoints(1, ring);
            x.circle(turn, (turn + 1) % 4, (turn + 2) % 4, (turn + 3) % 4);
            tally(due, "the RING of these has one size, whichever is d", x, 0, 1, 0);
            due.is("two and two are not alike", x.circle(turn, (turn + 1) % 4, (turn + 2) % 4, (turn + 3) % 4), signs[turn]);
        }
    }

    // A far point that the call does not tell leaves its bound alone.
    private static void sizeIsOfThePointsTold(Due due) {
        OrderJudge x = Due.withPoints(1, 0, 0, 1, 0, 0, 1, 1, 2, 800, 800);
        x.side(0, 1, 2);
        x.circle(0, 1, 2, 3);
        tally(due, "near points are clear, whatever lies far", x, 2, 0, 0);
        x.circle(0, 1, 2, 4);
        tally(due, "a far point that is told widens the bound", x, 2, 1, 0);
    }

    // Here exact reckoning, or doubles, would find the size on the bound's other side.
    private static void floatsAreRounded(Due due) {
        filterCase(due, true, 3, -526, 79, 725, -637, -215, -99);
        filterCase(due, false, 3, -539, 721, -358, 259, -463, 527);
        filterCase(due, true, 3, -544, 407, -422, -727, -466, -318);
        filterCase(due, false, 3, -683, 671, -721, -109, -719, -68);
        filterCase(due, true, 3, -730, -591, 528, 776, -601, 721, 677, -651);
        filterCase(due, false, 3, -522, 755, -506, 766, 794, -460, 698, -596);
        filterCase(due, true, 3, 546, 719, 441, -788, 545, -720, -573, 698);
        filterCase(due, false, 3, 467, 780, 798, 436, 434, -799, -783, -461);
    }

    // A bound greater or less by a few millionths of itself would tell otherwise.
    private static void hairsFromTheBound(Due due) {
        filterCase(due, true, 3, 541, 261, 724, 250, 641, 255);
        filterCase(due, true, 3, -657, 219, -724, 193, -693, 205);
        filterCase(due, false, 3, 554, 570, -600, 720, 77, 632);
        filterCase(due, false, 3, -511, -62, -512, 432, -512, 431);
        filterCase(due, true, 12, 711, 706, 719, 724, 712, 708);
        filterCase(due, true, 6, 574, 708, 581, 724, 573, 706);
        filterCase(due, false, 4, -495, 497, -512, 492, -502, 495);
        filterCase(due, true, 1, 178, -203, -108, -11, -105, -163, 89, -254);
        filterCase(due, true, 3, -165, -678, 90, 356, -349, -432, -182, -664);
        filterCase(due, false, 4, -40, 6, 107, -75, 128, -61, 37, 115);
    }

    // "in the order told": TURN seen from c, or reckoned of X, Y without the division, would tell otherwise.
    private static void orderOfTurn(Due due) {
        filterCase(due, false, 6, -90, 724, -131, -114, -122, 70);
        filterCase(due, true, 3, -311, 404, 250, -516, 225, -475);
        filterCase(due, false, 12, 10, 3, 212, 665, 230, 724);
        filterCase(due, true, 12, -726, 626, 238, -207, -152, 130);
    }

    // "(float) X / 12.0f": X times a twelfth would tell otherwise.
    private static void dividedByTwelve(Due due) {
        filterCase(due, false, 6, 512, -342, 508, -339, 509, -340);
        filterCase(due, true, 3, 512, -272, 511, -276, 512, -273);
        filterCase(due, false, 3, 501, -548, 434, -508, 545, 563, 217, -242);
        filterCase(due, true, 12, 569, -569, -124, 520, 147, 365, 535, -224);
    }

    // "in the order told": (A + C) + B, A + (B + C), or the differences to a in place of d, would tell otherwise.
    private static void orderOfRing(Due due) {
        filterCase(due, false, 3, -36, 174, -403, -189, -251, -690, 446, 35);
        filterCase(due, true, 3, 200, 110, -156, 2, 145, -70, -64, 234);
        filterCase(due, false, 3, -149, -500, 227, 431, -158, 286, 675, -363);
        filterCase(due, true, 2, -601, 156, -624, 696, 317, 45, 466, 574);
        filterCase(due, true, 12, 585, -258, -584, 519, 382, 662, -618, -292);
        filterCase(due, false, 6, 610, 353, -377, 444, -395, 319, 307, -152);
        filterCase(due, true, 6, 64, -34, -53, 71, -10, -9, 176, 70);
    }

    // "(SIZE * SIZE) * (SIZE * SIZE) * ..": SIZE * SIZE * SIZE * SIZE, or a bound that is not rounded, would tell otherwise.
    private static void orderOfTheBound(Due due) {
        filterCase(due, true, 6, 42, -106, 130, -185, 11, -42, 91, -159);
        filterCase(due, false, 6, -16, -1, -13, 3, -10, 1, -12, 3);
    }

    // SIZE is such that TURN is just the bound, and the bound is rounded up: without that it would be less.
    private static void turnBoundIsRounded(Due due) {
        filterCase(due, false, 12, 0, 0, 1, 0, 512, 1);
        filterCase(due, false, 6, 1, 0, 0, 0, 512, -1);
        filterCase(due, false, 3, 0, 1, 0, 0, -1, -512);
    }

    private static void filterCase(Due due, boolean decides, int down, int... xy) {
        OrderJudge x = Due.withPoints(down, xy);
        if (xy.length == 6) {
            x.side(0, 1, 2);
        } else {
            x.circle(0, 1, 2, 3);
        }
        tally(due, "floats of " + java.util.Arrays.toString(xy) + " by " + down, x, decides ? 1 : 0, decides ? 0 : 1, 0);
    }
}
