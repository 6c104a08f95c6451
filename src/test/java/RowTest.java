/** Promises 3 (size), 4 (of) and 5 (at). */
public final class RowTest {
    private static final int[] NO_PLACES = {-1, 3, 24, 25, Integer.MIN_VALUE, Integer.MAX_VALUE};

    public static void main(String[] args) {
        Due due = new Due();
        sizes(due);
        placesGetPoints(due);
        placesTell(due);
        due.end();
    }

    private static void sizes(Due due) {
        OrderJudge x = Due.withPoints(1, 0, 0);
        due.is("size(24)", x.size(24), 0);
        due.is("size(25)", x.size(25), -2);
        due.is("size(max)", x.size(Integer.MAX_VALUE), -2);
        due.throwing("size(-1)", NegativeArraySizeException.class, () -> x.size(-1));
        due.throwing("size(min)", NegativeArraySizeException.class, () -> x.size(Integer.MIN_VALUE));
        due.is("what is refused leaves the row", x.count(1), 24);
        due.is("of(23, 0)", x.of(23, 0), -1);
        due.is("size(24), again", x.size(24), 24);
        due.is("all with NONE", x.of(23, 0), -1);
        due.is("size(3)", x.size(3), 24);
        due.is("size(0)", x.size(0), 3);
        due.is("size(1)", x.size(1), 0);
        due.is("of(0, 0)", x.of(0, 0), -1);
        due.is("refused", x.size(25), -2);
        due.is("a refused size leaves the points in the row", x.at(0, 2), 0);
        due.is("size(1)", x.size(1), 1);
        due.is("size to the same number empties it", x.nearest(0, 1), -4);
    }

    private static void placesGetPoints(Due due) {
        OrderJudge x = Due.withPoints(1, 0, 0, 5, 5);
        x.size(3);
        due.is("of(2, 1)", x.of(2, 1), -1);
        due.is("of(2, 0)", x.of(2, 0), 1);
        due.is("of(2, NONE)", x.of(2, -1), 0);
        due.is("of(2, NONE), again", x.of(2, -1), -1);
        due.is("of(0, 2)", x.of(0, 2), -2);
        due.is("of(0, -2)", x.of(0, -2), -2);
        due.is("of(0, min)", x.of(0, Integer.MIN_VALUE), -2);
        due.is("of(0, max)", x.of(0, Integer.MAX_VALUE), -2);
        due.is("what is refused leaves the place", x.of(0, 1), -1);
        for (int i : NO_PLACES) {
            due.throwing("of(" + i + ", 0)", ArrayIndexOutOfBoundsException.class, () -> x.of(i, 0));
            due.throwing("of(" + i + ", NONE)", ArrayIndexOutOfBoundsException.class, () -> x.of(i, -1));
            due.is("of(" + i + ", 2): BAD is told first", x.of(i, 2), -2);
        }
        due.is("of(0, NONE)", x.of(0, -1), 1);
    }

    private static void placesTell(Due due) {
        OrderJudge x = Due.withPoints(12, 7, 8, -9, 10);
        x.size(3);
        x.of(0, 1);
        due.is("at(0, 0)", x.at(0, 0), -9);
        due.is("at(0, 1)", x.at(0, 1), 10);
        int[] others = {2, -1, 3, Integer.MIN_VALUE, Integer.MAX_VALUE};
        for (int what : others) {
            due.is("at(0, " + what + ")", x.at(0, what), 1);
            due.throwing("at(1, " + what + ")", NullPointerException.class, () -> x.at(1, what));
        }
        due.throwing("at(1, 0)", NullPointerException.class, () -> x.at(1, 0));
        due.throwing("at(1, 1)", NullPointerException.class, () -> x.at(1, 1));
        for (int i : NO_PLACES) {
            due.throwing("at(" + i + ", 0)", ArrayIndexOutOfBoundsException.class, () -> x.at(i, 0));
            due.throwing("at(" + i + ", 9)", ArrayIndexOutOfBoundsException.class, () -> x.at(i, 9));
        }
        x.of(0, -1);
        due.throwing("at(0, 0), NONE again", NullPointerException.class, () -> x.at(0, 0));
    }
}
