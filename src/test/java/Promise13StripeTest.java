/** Promise 13: stripe. */
public final class Promise13StripeTest {
    private static final int REFUSED = SpreadParity.REFUSED;

    public static void main(String[] args) {
        Checks checks = new Checks("promise 13");
        stripeNumbers(checks);
        conditions(checks);
        movedColumn(checks);
        noMovedColumn(checks);
        broken(checks);
        otherWhats(checks);
        checks.end();
    }

    private static void stripeNumbers(Checks checks) {
        checks.sentence("What of a stripe");
        for (int groups = 1; groups <= 3; groups++) {
            SpreadParity x = new SpreadParity(groups);
            checks.due("stripe(0, 5)", x.stripe(0, 5), 0);
            checks.due("the last stripe", x.stripe(7 * groups - 1, 5), 0);
            for (int s : Checks.outside(0, 7 * groups - 1)) {
                for (int what = -1; what <= 6; what++) {
                    checks.due("stripe(" + s + ", " + what + ")", x.stripe(s, what), REFUSED);
                }
            }
        }
    }

    private static void looks(Checks checks, SpreadParity x, int stripe, int... want) {
        for (int what = 0; what <= 5; what++) {
            checks.due("stripe(" + stripe + ", " + what + ")", x.stripe(stripe, what), want[what]);
        }
    }

    private static void conditions(Checks checks) {
        checks.sentence("0 .. 3: of that column: 0 fine, 1 WRONG, 2 LOST");
        SpreadParity x = new SpreadParity(2);
        looks(checks, x, 8, 0, 0, 0, 0, 4, 0);
        x.alter(8, 2, 4);
        looks(checks, x, 8, 0, 0, 1, 0, 4, 0);
        x.alter(8, 3, 4);
        looks(checks, x, 8, 0, 0, 1, 1, 4, 1);
        x.alter(8, 2, 4);
        x.fail(3);
        looks(checks, x, 8, 2, 0, 0, 1, 4, 1);
        x.alter(8, 3, 4);
        looks(checks, x, 8, 2, 0, 0, 0, 4, 0);
        x.rebuild(21);
        looks(checks, x, 8, 0, 0, 0, 0, 0, 0);
        x.alter(8, 0, 4);
        looks(checks, x, 8, 1, 0, 0, 0, 0, 0);
        x.fail(5);
        looks(checks, x, 8, 1, 2, 0, 0, 0, 1);
        x.fail(1);
        looks(checks, x, 8, 2, 2, 0, 0, 4, 1);
        x.fail(6);
        x.fail(0);
        looks(checks, x, 8, 2, 2, 2, 2, 4, 1);
    }

    private static void movedColumn(Checks checks) {
        checks.sentence("4 the column that is moved");
        for (int s = 0; s < 21; s++) {
            for (int c = 0; c < 4; c++) {
                SpreadParity x = new SpreadParity(3);
                x.fail(States.home(s, c));
                x.rebuild(21);
                looks(checks, x, s, 0, 0, 0, 0, c, 0);
            }
        }
    }

    private static void noMovedColumn(Checks checks) {
        checks.sentence("4 if none is");
        SpreadParity x = new SpreadParity(1);
        checks.due("stripe(0, 4), new", x.stripe(0, 4), 4);
        x.fail(2);
        checks.due("stripe(0, 4), LOST", x.stripe(0, 4), 4);
        x.rebuild(21);
        checks.due("stripe(1, 4), another stripe", x.stripe(1, 4), 4);
        x.replace(2);
        checks.due("stripe(0, 4), still moved", x.stripe(0, 4), 0);
        x.moveBack(21);
        checks.due("stripe(0, 4), moved back", x.stripe(0, 4), 4);
        x.fail(2);
        x.rebuild(21);
        x.fail(0);
        checks.due("stripe(0, 4), spare absent", x.stripe(0, 4), 4);
    }

    private static void broken(Checks checks) {
        checks.sentence("5: 1 if it is BROKEN, else 0");
        SpreadParity x = new SpreadParity(1);
        int[] due = {0, 1, 1, 1};
        for (int c = 0; c < 4; c++) {
            x.alter(3, c, 1);
            checks.due("stripe(3, 5), " + (c + 1) + " WRONG", x.stripe(3, 5), due[c]);
        }
        SpreadParity y = new SpreadParity(1);
        for (int c = 0; c < 4; c++) {
            y.fail(States.home(3, c));
            checks.due("stripe(3, 5), " + (c + 1) + " LOST", y.stripe(3, 5), due[c]);
        }
        checks.due("stripe(4, 5), all but one LOST", y.stripe(4, 5), 1);
    }

    private static void otherWhats(Checks checks) {
        checks.sentence("Another what: REFUSED.");
        SpreadParity x = States.mixed();
        for (int what : Checks.outside(0, 5)) {
            for (int s = 0; s < 14; s++) {
                checks.due("stripe(" + s + ", " + what + ")", x.stripe(s, what), REFUSED);
            }
        }
    }
}
