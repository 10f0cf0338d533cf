/** Promise 8: alter. */
public final class Promise08AlterTest {
    private static final int REFUSED = SpreadParity.REFUSED;
    private static final int DONE = SpreadParity.DONE;

    public static void main(String[] args) {
        Checks checks = new Checks("promise 8");
        stripeNumbers(checks);
        columnNumbers(checks);
        oneCellOnly(checks);
        exclusiveOr(checks);
        lostColumns(checks);
        noMask(checks);
        wrongOrNoMore(checks);
        movedColumns(checks);
        checks.end();
    }

    private static void stripeNumbers(Checks checks) {
        checks.sentence("of stripe 0 .. S - 1");
        for (int groups = 1; groups <= 3; groups++) {
            SpreadParity x = new SpreadParity(groups);
            for (int s : Checks.outside(0, 7 * groups - 1)) {
                for (int c = 0; c < 4; c++) {
                    checks.due("alter(" + s + ", " + c + ", 1)", x.alter(s, c, 1), REFUSED);
                }
            }
            checks.same("what is refused", x, new SpreadParity(groups));
            SpreadParity y = new SpreadParity(groups);
            checks.due("alter of the first", y.alter(0, 0, 1), DONE);
            checks.due("alter of the last", y.alter(7 * groups - 1, 3, 1), DONE);
            checks.due("the last", y.stripe(7 * groups - 1, 3), 1);
        }
    }

    private static void columnNumbers(Checks checks) {
        checks.sentence("The cell of column 0 .. 3");
        SpreadParity x = new SpreadParity(2);
        for (int c : Checks.outside(0, 3)) {
            for (int s = 0; s < 14; s++) {
                checks.due("alter(" + s + ", " + c + ", 1)", x.alter(s, c, 1), REFUSED);
            }
        }
        checks.same("what is refused", x, new SpreadParity(2));
        SpreadParity y = new SpreadParity(2);
        for (int c = 0; c < 4; c++) {
            checks.due("alter(5, " + c + ", 1)", y.alter(5, c, 1), DONE);
        }
    }

    private static void oneCellOnly(Checks checks) {
        checks.sentence("The cell of column 0 .. 3 of stripe 0 .. S - 1");
        SpreadParity x = new SpreadParity(3);
        for (int s = 0; s < 21; s++) {
            int c = s % 4;
            checks.due("alter(" + s + ", " + c + ", 1)", x.alter(s, c, 1 << s), DONE);
            for (int other = 0; other < 4; other++) {
                checks.due("stripe(" + s + ", " + other + ")", x.stripe(s, other), other == c ? 1 : 0);
            }
        }
        checks.due("count(3)", x.count(3), 21);
        checks.due("count(4)", x.count(4), 0);
    }

    /** Three masks, none of which is another's or 0, are 0 together. */
    private static void exclusiveOr(Checks checks) {
        checks.sentence("gets the exclusive-or of its word and mask");
        SpreadParity x = States.filled();
        int[][] masks = {{5, 9, 12}, {Integer.MIN_VALUE, -1, Integer.MAX_VALUE}};
        for (int[] three : masks) {
            checks.due("alter(0, 2, " + three[0] + ")", x.alter(0, 2, three[0]), DONE);
            checks.due("stripe(0, 2)", x.stripe(0, 2), 1);
            checks.due("alter(0, 2, " + three[1] + ")", x.alter(0, 2, three[1]), DONE);
            checks.due("stripe(0, 2)", x.stripe(0, 2), 1);
            checks.due("alter(0, 2, " + three[2] + ")", x.alter(0, 2, three[2]), DONE);
            checks.due("stripe(0, 2)", x.stripe(0, 2), 0);
        }
        checks.due("read(0, 2)", x.read(0, 2), States.word(2));
    }

    private static void lostColumns(Checks checks) {
        checks.sentence("The column is LOST");
        for (int c = 0; c < 4; c++) {
            SpreadParity x = States.filled();
            x.fail(States.home(0, c));
            checks.due("alter(0, " + c + ", 1), LOST", x.alter(0, c, 1), REFUSED);
            checks.due("alter(0, " + c + ", 0), LOST", x.alter(0, c, 0), REFUSED);
            x.replace(States.home(0, c));
            checks.due("alter(0, " + c + ", 1), LOST on a new disk", x.alter(0, c, 1), REFUSED);
            checks.due("count(3)", x.count(3), 0);
            x.rebuild(21);
            checks.due("stripe(0, " + c + "), worked out", x.stripe(0, c), 0);
            checks.due("alter(0, " + c + ", 1), LOST no more", x.alter(0, c, 1), DONE);
        }
    }

    private static void noMask(Checks checks) {
        checks.sentence("or mask is 0: REFUSED.");
        SpreadParity x = States.mixed();
        for (int s = 0; s < 14; s++) {
            for (int c = 0; c < 4; c++) {
                checks.due("alter(" + s + ", " + c + ", 0)", x.alter(s, c, 0), REFUSED);
            }
        }
        checks.same("what is refused", x, States.mixed());
        SpreadParity y = new SpreadParity(1);
        for (int mask : new int[] {1, -1, Integer.MIN_VALUE, Integer.MAX_VALUE}) {
            checks.due("alter(0, 0, " + mask + ")", y.alter(0, 0, mask), DONE);
        }
    }

    private static void wrongOrNoMore(Checks checks) {
        checks.sentence("(It is WRONG then, or no more if it was.) DONE.");
        SpreadParity x = States.filled();
        for (int c = 0; c < 4; c++) {
            checks.due("alter(6, " + c + ", -1)", x.alter(6, c, -1), DONE);
            checks.due("stripe(6, " + c + ")", x.stripe(6, c), 1);
        }
        checks.due("stripe(6, 5)", x.stripe(6, 5), 1);
        for (int c = 0; c < 4; c++) {
            checks.due("alter(6, " + c + ", -1)", x.alter(6, c, -1), DONE);
            checks.due("stripe(6, " + c + ")", x.stripe(6, c), 0);
        }
        checks.due("stripe(6, 5)", x.stripe(6, 5), 0);
        for (int i = 18; i < 21; i++) {
            checks.due("read(0, " + i + ")", x.read(0, i), States.word(i));
        }
    }

    private static void movedColumns(Checks checks) {
        checks.sentence("The cell of column");
        SpreadParity x = States.moved();
        checks.due("alter(0, 0, 3), moved", x.alter(0, 0, 3), DONE);
        checks.due("stripe(0, 0)", x.stripe(0, 0), 1);
        checks.due("stripe(0, 4)", x.stripe(0, 4), 0);
        checks.due("disk(0, 2)", x.disk(0, 2), 1);
        checks.due("alter(0, 0, 3), moved", x.alter(0, 0, 3), DONE);
        checks.due("stripe(0, 0)", x.stripe(0, 0), 0);
    }
}
