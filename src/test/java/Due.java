/** Counts the answers that are not as due, prints each of them, and ends the test with 1 if there was one. */
final class Due {
    /** A call whose answer is a number. */
    interface Call {
        long answer();
    }

    private int asked = 0;
    private int wrong = 0;

    void is(String call, long got, long want) {
        asked++;
        if (got != want) {
            report(call + " answered " + got + ", due is " + want);
        }
    }

    /** The class must be that very one, and thrown by a throw statement: the machine itself never throws. */
    void throwing(String call, Class<? extends RuntimeException> want, Call made) {
        asked++;
        try {
            report(call + " answered " + made.answer() + ", due is throws." + want.getSimpleName());
        } catch (RuntimeException thrown) {
            if (thrown.getClass() != want) {
                report(call + " threw " + thrown + ", due is throws." + want.getSimpleName());
            } else if (isOfTheMachine(thrown.getMessage())) {
                report(call + ": the machine threw " + thrown);
            }
        }
    }

    // The machine's texts: an index and a length, a division by zero, what was null, a length alone.
    private static boolean isOfTheMachine(String text) {
        return text == null || text.matches("Index .*|/ by zero|Cannot .*|-?[0-9]+");
    }

    void report(String text) {
        wrong++;
        if (wrong <= 40) {
            System.out.println(text);
        }
    }

    void end() {
        System.out.println(wrong == 0 ? asked + " answers are as due" : wrong + " of " + asked + " answers are not as due");
        if (wrong != 0 || asked == 0) {
            System.exit(1);
        }
    }

    /** A new object with these points (x, y, x, y ..), all with this down. */
    static OrderJudge withPoints(int down, int... xy) {
        OrderJudge judge = new OrderJudge();
        addPoints(judge, down, xy);
        return judge;
    }

    static void addPoints(OrderJudge judge, int down, int... xy) {
        for (int i = 0; i + 1 < xy.length; i += 2) {
            judge.point(xy[i], xy[i + 1], down);
        }
    }

    /** The row gets these points, one place each. */
    static void putRow(OrderJudge judge, int... points) {
        judge.size(points.length);
        for (int i = 0; i < points.length; i++) {
            judge.of(i, points[i]);
        }
    }
}
